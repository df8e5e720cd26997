theorem tw_1494 : (Jvm.Cond.fieldLink "MarshBellsModel" (433 : Nat) "MarshBellsModel" "never" "I") ∈ lw_tbl := tk_7 (List.mem_of_getElem? (i := 54) rfl)
theorem fl_X12_433 : kFL RX12 433 12 88 71 := ⟨RX12, TX12, rfl, by decide, inWX12, tw_1494⟩
theorem tw_1493 : (Jvm.Cond.fieldLink "MarshBellsModel" (430 : Nat) "MarshBellsModel" "unsureMany" "I") ∈ lw_tbl := tk_7 (List.mem_of_getElem? (i := 53) rfl)
theorem fl_X12_430 : kFL RX12 430 12 88 70 := ⟨RX12, TX12, rfl, by decide, inWX12, tw_1493⟩
theorem tw_1492 : (Jvm.Cond.fieldLink "MarshBellsModel" (147 : Nat) "MarshBellsModel" "unsure" "[I") ∈ lw_tbl := tk_7 (List.mem_of_getElem? (i := 52) rfl)
theorem fl_X12_147 : kFL RX12 147 12 88 69 := ⟨RX12, TX12, rfl, by decide, inWX12, tw_1492⟩
theorem dX12_asks_0 : decode cX12_asks 0 = .ok (.aload_n 0, 1) := by decide +kernel
theorem dX12_asks_1 : decode cX12_asks 1 = .ok (.iconst 0, 1) := by decide +kernel
theorem ft_X12_70 : kFT 12 70 .int false RX12 := ⟨RX12, TX12, 88, tyX12, rfl, tyX12_ok, nmX12, rfl, by decide +kernel, rfl⟩
theorem dX12_asks_2 : decode cX12_asks 2 = .ok (.putfield 430, 3) := by decide +kernel
theorem dX12_asks_5 : decode cX12_asks 5 = .ok (.aload_n 0, 1) := by decide +kernel
theorem dX12_asks_6 : decode cX12_asks 6 = .ok (.iconst 0, 1) := by decide +kernel
theorem ft_X12_71 : kFT 12 71 .int false RX12 := ⟨RX12, TX12, 88, tyX12, rfl, tyX12_ok, nmX12, rfl, by decide +kernel, rfl⟩
theorem dX12_asks_7 : decode cX12_asks 7 = .ok (.putfield 433, 3) := by decide +kernel
theorem dX12_asks_10 : decode cX12_asks 10 = .ok (.iconst 0, 1) := by decide +kernel
theorem dX12_asks_11 : decode cX12_asks 11 = .ok (.istore_n 1, 1) := by decide +kernel
theorem dX12_asks_12 : decode cX12_asks 12 = .ok (.iload_n 1, 1) := by decide +kernel
theorem dX12_asks_13 : decode cX12_asks 13 = .ok (.aload_n 0, 1) := by decide +kernel
theorem dX12_asks_14 : decode cX12_asks 14 = .ok (.getfield 335, 3) := by decide +kernel
theorem dX12_asks_17 : decode cX12_asks 17 = .ok (.if_icmp .ge 77, 3) := by decide +kernel
theorem dX12_asks_94 : decode cX12_asks 94 = .ok (.return_, 1) := by decide +kernel
theorem dX12_asks_20 : decode cX12_asks 20 = .ok (.aload_n 0, 1) := by decide +kernel
theorem dX12_asks_21 : decode cX12_asks 21 = .ok (.getfield 35, 3) := by decide +kernel
theorem dX12_asks_24 : decode cX12_asks 24 = .ok (.iload_n 1, 1) := by decide +kernel
theorem dX12_asks_25 : decode cX12_asks 25 = .ok (.iaload, 1) := by decide +kernel
theorem dX12_asks_41 : decode cX12_asks 41 = .ok (.aload_n 0, 1) := by decide +kernel
theorem dX12_asks_42 : decode cX12_asks 42 = .ok (.getfield 35, 3) := by decide +kernel
theorem dX12_asks_45 : decode cX12_asks 45 = .ok (.iload_n 1, 1) := by decide +kernel
theorem dX12_asks_46 : decode cX12_asks 46 = .ok (.iaload, 1) := by decide +kernel
theorem dX12_asks_47 : decode cX12_asks 47 = .ok (.iconst 1, 1) := by decide +kernel
theorem dX12_asks_48 : decode cX12_asks 48 = .ok (.bipush 9, 2) := by decide +kernel
theorem dX12_asks_50 : decode cX12_asks 50 = .ok (.invokestatic 392, 3) := by decide +kernel
theorem dX12_asks_88 : decode cX12_asks 88 = .ok (.iinc 1 1, 3) := by decide +kernel
theorem dX12_asks_91 : decode cX12_asks 91 = .ok (.goto (-79), 3) := by decide +kernel
theorem dX12_asks_53 : decode cX12_asks 53 = .ok (.ifCond .eq 35, 3) := by decide +kernel
theorem dX12_asks_56 : decode cX12_asks 56 = .ok (.aload_n 0, 1) := by decide +kernel
theorem dX12_asks_57 : decode cX12_asks 57 = .ok (.getfield 430, 3) := by decide +kernel
theorem dX12_asks_60 : decode cX12_asks 60 = .ok (.bipush 8, 2) := by decide +kernel
theorem dX12_asks_62 : decode cX12_asks 62 = .ok (.if_icmp .ne 6, 3) := by decide +kernel
theorem dX12_asks_68 : decode cX12_asks 68 = .ok (.aload_n 0, 1) := by decide +kernel
theorem dX12_asks_69 : decode cX12_asks 69 = .ok (.getfield 147, 3) := by decide +kernel
theorem dX12_asks_72 : decode cX12_asks 72 = .ok (.aload_n 0, 1) := by decide +kernel
theorem dX12_asks_73 : decode cX12_asks 73 = .ok (.getfield 430, 3) := by decide +kernel
theorem dX12_asks_76 : decode cX12_asks 76 = .ok (.iload_n 1, 1) := by decide +kernel
theorem dX12_asks_77 : decode cX12_asks 77 = .ok (.iastore, 1) := by decide +kernel
theorem dX12_asks_78 : decode cX12_asks 78 = .ok (.aload_n 0, 1) := by decide +kernel
theorem dX12_asks_79 : decode cX12_asks 79 = .ok (.dup, 1) := by decide +kernel
theorem dX12_asks_80 : decode cX12_asks 80 = .ok (.getfield 430, 3) := by decide +kernel
theorem dX12_asks_83 : decode cX12_asks 83 = .ok (.iconst 1, 1) := by decide +kernel
theorem dX12_asks_84 : decode cX12_asks 84 = .ok (.iadd, 1) := by decide +kernel
theorem dX12_asks_85 : decode cX12_asks 85 = .ok (.putfield 430, 3) := by decide +kernel
theorem dX12_asks_65 : decode cX12_asks 65 = .ok (.goto 23, 3) := by decide +kernel
theorem dX12_asks_26 : decode cX12_asks 26 = .ok (.ifCond .ne 15, 3) := by decide +kernel
theorem dX12_asks_29 : decode cX12_asks 29 = .ok (.aload_n 0, 1) := by decide +kernel
theorem dX12_asks_30 : decode cX12_asks 30 = .ok (.dup, 1) := by decide +kernel
theorem dX12_asks_31 : decode cX12_asks 31 = .ok (.getfield 433, 3) := by decide +kernel
theorem dX12_asks_34 : decode cX12_asks 34 = .ok (.iconst 1, 1) := by decide +kernel
theorem dX12_asks_35 : decode cX12_asks 35 = .ok (.iload_n 1, 1) := by decide +kernel
theorem dX12_asks_36 : decode cX12_asks 36 = .ok (.ishl, 1) := by decide +kernel
theorem dX12_asks_37 : decode cX12_asks 37 = .ok (.ior, 1) := by decide +kernel
theorem dX12_asks_38 : decode cX12_asks 38 = .ok (.putfield 433, 3) := by decide +kernel
theorem dX12_tens_0 : decode cX12_tens 0 = .ok (.lconst 1, 1) := by decide +kernel
theorem dX12_tens_1 : decode cX12_tens 1 = .ok (.lstore_n 1, 1) := by decide +kernel
theorem dX12_tens_2 : decode cX12_tens 2 = .ok (.iconst 0, 1) := by decide +kernel
theorem dX12_tens_3 : decode cX12_tens 3 = .ok (.istore_n 3, 1) := by decide +kernel
theorem dX12_tens_4 : decode cX12_tens 4 = .ok (.iload_n 3, 1) := by decide +kernel
theorem dX12_tens_5 : decode cX12_tens 5 = .ok (.aload_n 0, 1) := by decide +kernel
theorem dX12_tens_6 : decode cX12_tens 6 = .ok (.getfield 430, 3) := by decide +kernel
theorem dX12_tens_9 : decode cX12_tens 9 = .ok (.if_icmp .ge 15, 3) := by decide +kernel
theorem dX12_tens_24 : decode cX12_tens 24 = .ok (.lload_n 1, 1) := by decide +kernel
theorem dX12_tens_25 : decode cX12_tens 25 = .ok (.lreturn, 1) := by decide +kernel
theorem dX12_tens_12 : decode cX12_tens 12 = .ok (.lload_n 1, 1) := by decide +kernel
theorem tw_1966 : (Jvm.Cond.constantLong "MarshBellsModel" (436 : Nat) (10 : Int64)) ∈ lw_tbl := tk_9 (List.mem_of_getElem? (i := 46) rfl)
theorem dX12_tens_13 : decode cX12_tens 13 = .ok (.ldc2_w 436, 3) := by decide +kernel
theorem dX12_tens_16 : decode cX12_tens 16 = .ok (.lmul, 1) := by decide +kernel
theorem dX12_tens_17 : decode cX12_tens 17 = .ok (.lstore_n 1, 1) := by decide +kernel
theorem dX12_tens_18 : decode cX12_tens 18 = .ok (.iinc 3 1, 3) := by decide +kernel
theorem dX12_tens_21 : decode cX12_tens 21 = .ok (.goto (-17), 3) := by decide +kernel
theorem dX12_weighs_0 : decode cX12_weighs 0 = .ok (.lconst 0, 1) := by decide +kernel
theorem dX12_weighs_1 : decode cX12_weighs 1 = .ok (.lstore_n 3, 1) := by decide +kernel
theorem dX12_weighs_2 : decode cX12_weighs 2 = .ok (.iconst 0, 1) := by decide +kernel
theorem dX12_weighs_3 : decode cX12_weighs 3 = .ok (.istore 5, 2) := by decide +kernel
theorem dX12_weighs_5 : decode cX12_weighs 5 = .ok (.iload 5, 2) := by decide +kernel
theorem dX12_weighs_7 : decode cX12_weighs 7 = .ok (.iconst 1, 1) := by decide +kernel
theorem dX12_weighs_8 : decode cX12_weighs 8 = .ok (.aload_n 0, 1) := by decide +kernel
theorem dX12_weighs_9 : decode cX12_weighs 9 = .ok (.getfield 430, 3) := by decide +kernel
theorem dX12_weighs_12 : decode cX12_weighs 12 = .ok (.ishl, 1) := by decide +kernel
theorem dX12_weighs_13 : decode cX12_weighs 13 = .ok (.if_icmp .ge 164, 3) := by decide +kernel
theorem dX12_weighs_177 : decode cX12_weighs 177 = .ok (.aload_n 0, 1) := by decide +kernel
theorem dX12_weighs_178 : decode cX12_weighs 178 = .ok (.iconst 0, 1) := by decide +kernel
theorem ft_X12_60 : kFT 12 60 .int false RX12 := ⟨RX12, TX12, 88, tyX12, rfl, tyX12_ok, nmX12, rfl, by decide +kernel, rfl⟩
theorem dX12_weighs_179 : decode cX12_weighs 179 = .ok (.putfield 374, 3) := by decide +kernel
theorem dX12_weighs_182 : decode cX12_weighs 182 = .ok (.lload_n 3, 1) := by decide +kernel
theorem dX12_weighs_183 : decode cX12_weighs 183 = .ok (.lreturn, 1) := by decide +kernel
theorem dX12_weighs_16 : decode cX12_weighs 16 = .ok (.lconst 1, 1) := by decide +kernel
theorem dX12_weighs_17 : decode cX12_weighs 17 = .ok (.lstore 6, 2) := by decide +kernel
theorem dX12_weighs_19 : decode cX12_weighs 19 = .ok (.aload_n 0, 1) := by decide +kernel
theorem dX12_weighs_20 : decode cX12_weighs 20 = .ok (.aload_n 0, 1) := by decide +kernel
theorem dX12_weighs_21 : decode cX12_weighs 21 = .ok (.getfield 433, 3) := by decide +kernel
theorem dX12_weighs_24 : decode cX12_weighs 24 = .ok (.putfield 374, 3) := by decide +kernel
theorem dX12_weighs_27 : decode cX12_weighs 27 = .ok (.iconst 0, 1) := by decide +kernel
theorem dX12_weighs_28 : decode cX12_weighs 28 = .ok (.istore 8, 2) := by decide +kernel
theorem dX12_weighs_30 : decode cX12_weighs 30 = .ok (.iload 8, 2) := by decide +kernel
theorem dX12_weighs_32 : decode cX12_weighs 32 = .ok (.aload_n 0, 1) := by decide +kernel
theorem dX12_weighs_33 : decode cX12_weighs 33 = .ok (.getfield 430, 3) := by decide +kernel
theorem dX12_weighs_36 : decode cX12_weighs 36 = .ok (.if_icmp .ge 96, 3) := by decide +kernel
theorem dX12_weighs_132 : decode cX12_weighs 132 = .ok (.aload_n 0, 1) := by decide +kernel
theorem dX12_weighs_133 : decode cX12_weighs 133 = .ok (.invokevirtual 386, 3) := by decide +kernel
theorem dX12_weighs_136 : decode cX12_weighs 136 = .ok (.lload_n 3, 1) := by decide +kernel
theorem dX12_weighs_137 : decode cX12_weighs 137 = .ok (.iload_n 2, 1) := by decide +kernel
theorem dX12_weighs_138 : decode cX12_weighs 138 = .ok (.iconst (-1), 1) := by decide +kernel
theorem dX12_weighs_169 : decode cX12_weighs 169 = .ok (.ladd, 1) := by decide +kernel
theorem dX12_weighs_170 : decode cX12_weighs 170 = .ok (.lstore_n 3, 1) := by decide +kernel
theorem dX12_weighs_171 : decode cX12_weighs 171 = .ok (.iinc 5 1, 3) := by decide +kernel
theorem dX12_weighs_174 : decode cX12_weighs 174 = .ok (.goto (-169), 3) := by decide +kernel
theorem dX12_weighs_139 : decode cX12_weighs 139 = .ok (.if_icmp .ne 15, 3) := by decide +kernel
theorem dX12_weighs_154 : decode cX12_weighs 154 = .ok (.aload_n 0, 1) := by decide +kernel
theorem dX12_weighs_155 : decode cX12_weighs 155 = .ok (.iload_n 1, 1) := by decide +kernel
theorem dX12_weighs_156 : decode cX12_weighs 156 = .ok (.invokevirtual 389, 3) := by decide +kernel
theorem dX12_weighs_159 : decode cX12_weighs 159 = .ok (.iload_n 2, 1) := by decide +kernel
theorem dX12_weighs_160 : decode cX12_weighs 160 = .ok (.if_icmp .le 8, 3) := by decide +kernel
theorem dX12_weighs_168 : decode cX12_weighs 168 = .ok (.lconst 0, 1) := by decide +kernel
theorem dX12_weighs_163 : decode cX12_weighs 163 = .ok (.lload 6, 2) := by decide +kernel
theorem dX12_weighs_165 : decode cX12_weighs 165 = .ok (.goto 4, 3) := by decide +kernel
theorem dX12_weighs_142 : decode cX12_weighs 142 = .ok (.lload 6, 2) := by decide +kernel
theorem dX12_weighs_144 : decode cX12_weighs 144 = .ok (.aload_n 0, 1) := by decide +kernel
theorem dX12_weighs_145 : decode cX12_weighs 145 = .ok (.iload_n 1, 1) := by decide +kernel
theorem dX12_weighs_146 : decode cX12_weighs 146 = .ok (.invokevirtual 389, 3) := by decide +kernel
theorem dX12_weighs_149 : decode cX12_weighs 149 = .ok (.i2l, 1) := by decide +kernel
theorem dX12_weighs_150 : decode cX12_weighs 150 = .ok (.lmul, 1) := by decide +kernel
theorem dX12_weighs_151 : decode cX12_weighs 151 = .ok (.goto 18, 3) := by decide +kernel
theorem dX12_weighs_39 : decode cX12_weighs 39 = .ok (.iload 5, 2) := by decide +kernel
theorem dX12_weighs_41 : decode cX12_weighs 41 = .ok (.iload 8, 2) := by decide +kernel
theorem dX12_weighs_43 : decode cX12_weighs 43 = .ok (.ishr, 1) := by decide +kernel
theorem dX12_weighs_44 : decode cX12_weighs 44 = .ok (.iconst 1, 1) := by decide +kernel
theorem dX12_weighs_45 : decode cX12_weighs 45 = .ok (.iand, 1) := by decide +kernel
theorem dX12_weighs_46 : decode cX12_weighs 46 = .ok (.iconst 1, 1) := by decide +kernel
theorem dX12_weighs_55 : decode cX12_weighs 55 = .ok (.istore 9, 2) := by decide +kernel
theorem dX12_weighs_57 : decode cX12_weighs 57 = .ok (.lload 6, 2) := by decide +kernel
theorem dX12_weighs_59 : decode cX12_weighs 59 = .ok (.iload 9, 2) := by decide +kernel
theorem dX12_weighs_96 : decode cX12_weighs 96 = .ok (.lmul, 1) := by decide +kernel
theorem dX12_weighs_97 : decode cX12_weighs 97 = .ok (.lstore 6, 2) := by decide +kernel
theorem dX12_weighs_99 : decode cX12_weighs 99 = .ok (.aload_n 0, 1) := by decide +kernel
theorem dX12_weighs_100 : decode cX12_weighs 100 = .ok (.dup, 1) := by decide +kernel
theorem dX12_weighs_101 : decode cX12_weighs 101 = .ok (.getfield 374, 3) := by decide +kernel
theorem dX12_weighs_104 : decode cX12_weighs 104 = .ok (.iload 9, 2) := by decide +kernel
theorem dX12_weighs_122 : decode cX12_weighs 122 = .ok (.ior, 1) := by decide +kernel
theorem dX12_weighs_123 : decode cX12_weighs 123 = .ok (.putfield 374, 3) := by decide +kernel
theorem dX12_weighs_126 : decode cX12_weighs 126 = .ok (.iinc 8 1, 3) := by decide +kernel
theorem dX12_weighs_129 : decode cX12_weighs 129 = .ok (.goto (-99), 3) := by decide +kernel
theorem dX12_weighs_106 : decode cX12_weighs 106 = .ok (.ifCond .eq 7, 3) := by decide +kernel
theorem dX12_weighs_113 : decode cX12_weighs 113 = .ok (.iconst 1, 1) := by decide +kernel
theorem dX12_weighs_114 : decode cX12_weighs 114 = .ok (.aload_n 0, 1) := by decide +kernel
theorem dX12_weighs_115 : decode cX12_weighs 115 = .ok (.getfield 147, 3) := by decide +kernel
theorem dX12_weighs_118 : decode cX12_weighs 118 = .ok (.iload 8, 2) := by decide +kernel
theorem dX12_weighs_120 : decode cX12_weighs 120 = .ok (.iaload, 1) := by decide +kernel
theorem dX12_weighs_121 : decode cX12_weighs 121 = .ok (.ishl, 1) := by decide +kernel
theorem dX12_weighs_109 : decode cX12_weighs 109 = .ok (.iconst 0, 1) := by decide +kernel
theorem dX12_weighs_110 : decode cX12_weighs 110 = .ok (.goto 12, 3) := by decide +kernel
theorem dX12_weighs_61 : decode cX12_weighs 61 = .ok (.ifCond .eq 19, 3) := by decide +kernel
theorem dX12_weighs_80 : decode cX12_weighs 80 = .ok (.bipush 10, 2) := by decide +kernel
theorem dX12_weighs_82 : decode cX12_weighs 82 = .ok (.aload_n 0, 1) := by decide +kernel
theorem dX12_weighs_83 : decode cX12_weighs 83 = .ok (.getfield 35, 3) := by decide +kernel
theorem dX12_weighs_86 : decode cX12_weighs 86 = .ok (.aload_n 0, 1) := by decide +kernel
theorem dX12_weighs_87 : decode cX12_weighs 87 = .ok (.getfield 147, 3) := by decide +kernel
theorem dX12_weighs_90 : decode cX12_weighs 90 = .ok (.iload 8, 2) := by decide +kernel
theorem dX12_weighs_92 : decode cX12_weighs 92 = .ok (.iaload, 1) := by decide +kernel
theorem dX12_weighs_93 : decode cX12_weighs 93 = .ok (.iaload, 1) := by decide +kernel
theorem dX12_weighs_94 : decode cX12_weighs 94 = .ok (.isub, 1) := by decide +kernel
theorem dX12_weighs_95 : decode cX12_weighs 95 = .ok (.i2l, 1) := by decide +kernel
theorem dX12_weighs_64 : decode cX12_weighs 64 = .ok (.aload_n 0, 1) := by decide +kernel
theorem dX12_weighs_65 : decode cX12_weighs 65 = .ok (.getfield 35, 3) := by decide +kernel
theorem dX12_weighs_68 : decode cX12_weighs 68 = .ok (.aload_n 0, 1) := by decide +kernel
theorem dX12_weighs_69 : decode cX12_weighs 69 = .ok (.getfield 147, 3) := by decide +kernel
theorem dX12_weighs_72 : decode cX12_weighs 72 = .ok (.iload 8, 2) := by decide +kernel
theorem dX12_weighs_74 : decode cX12_weighs 74 = .ok (.iaload, 1) := by decide +kernel
theorem dX12_weighs_75 : decode cX12_weighs 75 = .ok (.iaload, 1) := by decide +kernel
theorem dX12_weighs_76 : decode cX12_weighs 76 = .ok (.i2l, 1) := by decide +kernel
theorem dX12_weighs_77 : decode cX12_weighs 77 = .ok (.goto 19, 3) := by decide +kernel
theorem dX12_weighs_47 : decode cX12_weighs 47 = .ok (.if_icmp .ne 7, 3) := by decide +kernel
theorem dX12_weighs_54 : decode cX12_weighs 54 = .ok (.iconst 0, 1) := by decide +kernel
theorem dX12_weighs_50 : decode cX12_weighs 50 = .ok (.iconst 1, 1) := by decide +kernel
theorem dX12_weighs_51 : decode cX12_weighs 51 = .ok (.goto 4, 3) := by decide +kernel
theorem dX12_portion_0 : decode cX12_portion 0 = .ok (.lload_n 2, 1) := by decide +kernel
theorem dX12_portion_1 : decode cX12_portion 1 = .ok (.lstore 5, 2) := by decide +kernel
theorem dX12_portion_3 : decode cX12_portion 3 = .ok (.lload_n 0, 1) := by decide +kernel
theorem dX12_portion_4 : decode cX12_portion 4 = .ok (.lstore 7, 2) := by decide +kernel
theorem dX12_portion_6 : decode cX12_portion 6 = .ok (.lload 7, 2) := by decide +kernel
theorem dX12_portion_8 : decode cX12_portion 8 = .ok (.lconst 0, 1) := by decide +kernel
theorem dX12_portion_9 : decode cX12_portion 9 = .ok (.lcmp, 1) := by decide +kernel
theorem dX12_portion_10 : decode cX12_portion 10 = .ok (.ifCond .eq 21, 3) := by decide +kernel
theorem dX12_portion_31 : decode cX12_portion 31 = .ok (.iload 4, 2) := by decide +kernel
theorem dX12_portion_41 : decode cX12_portion 41 = .ok (.lload 5, 2) := by decide +kernel
theorem dX12_portion_43 : decode cX12_portion 43 = .ok (.ldiv, 1) := by decide +kernel
theorem dX12_portion_44 : decode cX12_portion 44 = .ok (.lreturn, 1) := by decide +kernel
theorem dX12_portion_33 : decode cX12_portion 33 = .ok (.ifCond .ne 7, 3) := by decide +kernel
theorem dX12_portion_40 : decode cX12_portion 40 = .ok (.lload_n 2, 1) := by decide +kernel
theorem dX12_portion_36 : decode cX12_portion 36 = .ok (.lload_n 0, 1) := by decide +kernel
theorem dX12_portion_37 : decode cX12_portion 37 = .ok (.goto 4, 3) := by decide +kernel
theorem dX12_portion_13 : decode cX12_portion 13 = .ok (.lload 5, 2) := by decide +kernel
theorem dX12_portion_15 : decode cX12_portion 15 = .ok (.lload 7, 2) := by decide +kernel
theorem dX12_portion_17 : decode cX12_portion 17 = .ok (.lrem, 1) := by decide +kernel
theorem dX12_portion_18 : decode cX12_portion 18 = .ok (.lstore 9, 2) := by decide +kernel
theorem dX12_portion_20 : decode cX12_portion 20 = .ok (.lload 7, 2) := by decide +kernel
theorem dX12_portion_22 : decode cX12_portion 22 = .ok (.lstore 5, 2) := by decide +kernel
theorem dX12_portion_24 : decode cX12_portion 24 = .ok (.lload 9, 2) := by decide +kernel
theorem dX12_portion_26 : decode cX12_portion 26 = .ok (.lstore 7, 2) := by decide +kernel
theorem dX12_portion_28 : decode cX12_portion 28 = .ok (.goto (-22), 3) := by decide +kernel
theorem dX12_chance_0 : decode cX12_chance 0 = .ok (.aload_n 0, 1) := by decide +kernel
theorem dX12_chance_1 : decode cX12_chance 1 = .ok (.iconst 0, 1) := by decide +kernel
theorem dX12_chance_2 : decode cX12_chance 2 = .ok (.putfield 177, 3) := by decide +kernel
theorem dX12_chance_5 : decode cX12_chance 5 = .ok (.aload_n 0, 1) := by decide +kernel
theorem dX12_chance_6 : decode cX12_chance 6 = .ok (.iload_n 1, 1) := by decide +kernel
theorem dX12_chance_7 : decode cX12_chance 7 = .ok (.invokevirtual 402, 3) := by decide +kernel
theorem dX12_chance_38 : decode cX12_chance 38 = .ok (.lconst 0, 1) := by decide +kernel
theorem dX12_chance_39 : decode cX12_chance 39 = .ok (.lreturn, 1) := by decide +kernel
theorem dX12_chance_10 : decode cX12_chance 10 = .ok (.ifCond .eq 28, 3) := by decide +kernel
theorem dX12_chance_13 : decode cX12_chance 13 = .ok (.aload_n 0, 1) := by decide +kernel
theorem dX12_chance_14 : decode cX12_chance 14 = .ok (.iload_n 3, 1) := by decide +kernel
theorem dX12_chance_15 : decode cX12_chance 15 = .ok (.iconst 1, 1) := by decide +kernel
theorem dX12_chance_16 : decode cX12_chance 16 = .ok (.invokevirtual 405, 3) := by decide +kernel
theorem dX12_chance_19 : decode cX12_chance 19 = .ok (.ifCond .eq 19, 3) := by decide +kernel
theorem dX12_chance_22 : decode cX12_chance 22 = .ok (.aload_n 0, 1) := by decide +kernel
theorem dX12_chance_23 : decode cX12_chance 23 = .ok (.iload_n 2, 1) := by decide +kernel
theorem dX12_chance_24 : decode cX12_chance 24 = .ok (.iconst 0, 1) := by decide +kernel
theorem dX12_chance_25 : decode cX12_chance 25 = .ok (.sipush 999, 3) := by decide +kernel
theorem dX12_chance_28 : decode cX12_chance 28 = .ok (.invokestatic 392, 3) := by decide +kernel
theorem dX12_chance_31 : decode cX12_chance 31 = .ok (.iconst 2, 1) := by decide +kernel
theorem dX12_chance_32 : decode cX12_chance 32 = .ok (.invokevirtual 328, 3) := by decide +kernel
theorem dX12_chance_35 : decode cX12_chance 35 = .ok (.ifCond .ne 5, 3) := by decide +kernel
theorem dX12_chance_40 : decode cX12_chance 40 = .ok (.aload_n 0, 1) := by decide +kernel
theorem tw_1954 : (Jvm.Cond.methodLink "MarshBellsModel" (438 : Nat) ({ cls := "MarshBellsModel", name := "asks", desc := "()V" } : Jvm.MethodName)) ∈ lw_tbl := tk_9 (List.mem_of_getElem? (i := 34) rfl)
theorem tw_1957 : (Jvm.Cond.code ({ cls := "MarshBellsModel", name := "asks", desc := "()V" } : Jvm.MethodName) prog_14_method_70_code (2 : Nat) (Option.none : Option Jvm.ClassFile.FieldType)) ∈ lw_tbl := tk_9 (List.mem_of_getElem? (i := 37) rfl)
theorem tw_1956 : (Jvm.Cond.instanceMethod ({ cls := "MarshBellsModel", name := "asks", desc := "()V" } : Jvm.MethodName)) ∈ lw_tbl := tk_9 (List.mem_of_getElem? (i := 36) rfl)
theorem se_X12_asks : Cond.selects RX12 yX12_asks yX12_asks ∈ lw_tbl := List.mem_append_left _ (List.mem_of_getElem? (i := 149) rfl)
theorem li_X12_438 : kLV RX12 438 RX12 yX12_asks cX12_asks 2 none 0 := ⟨tw_1954, tw_1956, se_X12_asks, tw_1957, tw_13, by decide +kernel⟩
theorem dX12_chance_41 : decode cX12_chance 41 = .ok (.invokevirtual 438, 3) := by decide +kernel
theorem dX12_chance_44 : decode cX12_chance 44 = .ok (.aload_n 0, 1) := by decide +kernel
theorem dX12_chance_45 : decode cX12_chance 45 = .ok (.iload_n 1, 1) := by decide +kernel
theorem dX12_chance_46 : decode cX12_chance 46 = .ok (.iload_n 2, 1) := by decide +kernel
theorem tw_1958 : (Jvm.Cond.methodLink "MarshBellsModel" (441 : Nat) ({ cls := "MarshBellsModel", name := "weighs", desc := "(II)J" } : Jvm.MethodName)) ∈ lw_tbl := tk_9 (List.mem_of_getElem? (i := 38) rfl)
theorem tw_1961 : (Jvm.Cond.code ({ cls := "MarshBellsModel", name := "weighs", desc := "(II)J" } : Jvm.MethodName) prog_14_method_72_code (10 : Nat) (Option.some Jvm.ClassFile.FieldType.long)) ∈ lw_tbl := tk_9 (List.mem_of_getElem? (i := 41) rfl)
theorem tw_1960 : (Jvm.Cond.instanceMethod ({ cls := "MarshBellsModel", name := "weighs", desc := "(II)J" } : Jvm.MethodName)) ∈ lw_tbl := tk_9 (List.mem_of_getElem? (i := 40) rfl)
theorem se_X12_weighs : Cond.selects RX12 yX12_weighs yX12_weighs ∈ lw_tbl := List.mem_append_left _ (List.mem_of_getElem? (i := 150) rfl)
theorem li_X12_441 : kLV RX12 441 RX12 yX12_weighs cX12_weighs 10 (some .long) 2 := ⟨tw_1958, tw_1960, se_X12_weighs, tw_1961, tw_13, by decide +kernel⟩
theorem dX12_chance_47 : decode cX12_chance 47 = .ok (.invokevirtual 441, 3) := by decide +kernel
theorem dX12_chance_50 : decode cX12_chance 50 = .ok (.aload_n 0, 1) := by decide +kernel
theorem tw_1962 : (Jvm.Cond.methodLink "MarshBellsModel" (445 : Nat) ({ cls := "MarshBellsModel", name := "tens", desc := "()J" } : Jvm.MethodName)) ∈ lw_tbl := tk_9 (List.mem_of_getElem? (i := 42) rfl)
theorem tw_1965 : (Jvm.Cond.code ({ cls := "MarshBellsModel", name := "tens", desc := "()J" } : Jvm.MethodName) prog_14_method_71_code (4 : Nat) (Option.some Jvm.ClassFile.FieldType.long)) ∈ lw_tbl := tk_9 (List.mem_of_getElem? (i := 45) rfl)
theorem tw_1964 : (Jvm.Cond.instanceMethod ({ cls := "MarshBellsModel", name := "tens", desc := "()J" } : Jvm.MethodName)) ∈ lw_tbl := tk_9 (List.mem_of_getElem? (i := 44) rfl)
theorem se_X12_tens : Cond.selects RX12 yX12_tens yX12_tens ∈ lw_tbl := List.mem_append_left _ (List.mem_of_getElem? (i := 151) rfl)
theorem li_X12_445 : kLV RX12 445 RX12 yX12_tens cX12_tens 4 (some .long) 0 := ⟨tw_1962, tw_1964, se_X12_tens, tw_1965, tw_13, by decide +kernel⟩
theorem dX12_chance_51 : decode cX12_chance 51 = .ok (.invokevirtual 445, 3) := by decide +kernel
theorem dX12_chance_54 : decode cX12_chance 54 = .ok (.iload_n 3, 1) := by decide +kernel
theorem tw_1967 : (Jvm.Cond.methodLink "MarshBellsModel" (449 : Nat) ({ cls := "MarshBellsModel", name := "portion", desc := "(JJI)J" } : Jvm.MethodName)) ∈ lw_tbl := tk_9 (List.mem_of_getElem? (i := 47) rfl)
theorem tw_1969 : (Jvm.Cond.code ({ cls := "MarshBellsModel", name := "portion", desc := "(JJI)J" } : Jvm.MethodName) prog_14_method_73_code (11 : Nat) (Option.some Jvm.ClassFile.FieldType.long)) ∈ lw_tbl := tk_9 (List.mem_of_getElem? (i := 49) rfl)
theorem tw_1968 : (Jvm.Cond.static ({ cls := "MarshBellsModel", name := "portion", desc := "(JJI)J" } : Jvm.MethodName)) ∈ lw_tbl := tk_9 (List.mem_of_getElem? (i := 48) rfl)
theorem li_X12_449 : kLS RX12 449 yX12_portion cX12_portion 11 (some .long) 3 := ⟨tw_1967, tw_1968, tw_1969, tw_13, by decide +kernel⟩
theorem dX12_chance_55 : decode cX12_chance 55 = .ok (.invokestatic 449, 3) := by decide +kernel
theorem dX12_chance_58 : decode cX12_chance 58 = .ok (.lreturn, 1) := by decide +kernel
theorem dX12_mean_0 : decode cX12_mean 0 = .ok (.aload_n 0, 1) := by decide +kernel
theorem dX12_mean_1 : decode cX12_mean 1 = .ok (.iconst 0, 1) := by decide +kernel
theorem dX12_mean_2 : decode cX12_mean 2 = .ok (.putfield 177, 3) := by decide +kernel
theorem dX12_mean_5 : decode cX12_mean 5 = .ok (.aload_n 0, 1) := by decide +kernel
theorem dX12_mean_6 : decode cX12_mean 6 = .ok (.iload_n 1, 1) := by decide +kernel
theorem dX12_mean_7 : decode cX12_mean 7 = .ok (.invokevirtual 402, 3) := by decide +kernel
theorem dX12_mean_22 : decode cX12_mean 22 = .ok (.lconst 0, 1) := by decide +kernel
theorem dX12_mean_23 : decode cX12_mean 23 = .ok (.lreturn, 1) := by decide +kernel
theorem dX12_mean_10 : decode cX12_mean 10 = .ok (.ifCond .eq 12, 3) := by decide +kernel
theorem dX12_mean_13 : decode cX12_mean 13 = .ok (.aload_n 0, 1) := by decide +kernel
theorem dX12_mean_14 : decode cX12_mean 14 = .ok (.iload_n 2, 1) := by decide +kernel
theorem dX12_mean_15 : decode cX12_mean 15 = .ok (.iconst 1, 1) := by decide +kernel
theorem dX12_mean_16 : decode cX12_mean 16 = .ok (.invokevirtual 405, 3) := by decide +kernel
theorem dX12_mean_19 : decode cX12_mean 19 = .ok (.ifCond .ne 5, 3) := by decide +kernel
theorem dX12_mean_24 : decode cX12_mean 24 = .ok (.aload_n 0, 1) := by decide +kernel
theorem dX12_mean_25 : decode cX12_mean 25 = .ok (.invokevirtual 438, 3) := by decide +kernel
theorem dX12_mean_28 : decode cX12_mean 28 = .ok (.aload_n 0, 1) := by decide +kernel
theorem dX12_mean_29 : decode cX12_mean 29 = .ok (.iload_n 1, 1) := by decide +kernel
theorem dX12_mean_30 : decode cX12_mean 30 = .ok (.iconst (-1), 1) := by decide +kernel
theorem dX12_mean_31 : decode cX12_mean 31 = .ok (.invokevirtual 441, 3) := by decide +kernel
theorem dX12_mean_34 : decode cX12_mean 34 = .ok (.aload_n 0, 1) := by decide +kernel
theorem dX12_mean_35 : decode cX12_mean 35 = .ok (.invokevirtual 445, 3) := by decide +kernel
theorem dX12_mean_38 : decode cX12_mean 38 = .ok (.iload_n 2, 1) := by decide +kernel
theorem dX12_mean_39 : decode cX12_mean 39 = .ok (.invokestatic 449, 3) := by decide +kernel
theorem dX12_mean_42 : decode cX12_mean 42 = .ok (.lreturn, 1) := by decide +kernel
theorem dX12_swaps_0 : decode cX12_swaps 0 = .ok (.aload_n 0, 1) := by decide +kernel
theorem dX12_swaps_1 : decode cX12_swaps 1 = .ok (.getfield 50, 3) := by decide +kernel
theorem dX12_swaps_4 : decode cX12_swaps 4 = .ok (.iconst 0, 1) := by decide +kernel
theorem dX12_swaps_5 : decode cX12_swaps 5 = .ok (.iload_n 1, 1) := by decide +kernel
theorem dX12_swaps_6 : decode cX12_swaps 6 = .ok (.iadd, 1) := by decide +kernel
theorem dX12_swaps_7 : decode cX12_swaps 7 = .ok (.iaload, 1) := by decide +kernel
theorem dX12_swaps_8 : decode cX12_swaps 8 = .ok (.istore_n 3, 1) := by decide +kernel
theorem dX12_swaps_9 : decode cX12_swaps 9 = .ok (.aload_n 0, 1) := by decide +kernel
theorem dX12_swaps_10 : decode cX12_swaps 10 = .ok (.getfield 50, 3) := by decide +kernel
theorem dX12_swaps_13 : decode cX12_swaps 13 = .ok (.iconst 0, 1) := by decide +kernel
theorem dX12_swaps_14 : decode cX12_swaps 14 = .ok (.iload_n 1, 1) := by decide +kernel
theorem dX12_swaps_15 : decode cX12_swaps 15 = .ok (.iadd, 1) := by decide +kernel
theorem dX12_swaps_16 : decode cX12_swaps 16 = .ok (.aload_n 0, 1) := by decide +kernel
theorem dX12_swaps_17 : decode cX12_swaps 17 = .ok (.getfield 50, 3) := by decide +kernel
theorem dX12_swaps_20 : decode cX12_swaps 20 = .ok (.iconst 0, 1) := by decide +kernel
theorem dX12_swaps_21 : decode cX12_swaps 21 = .ok (.iload_n 2, 1) := by decide +kernel
theorem dX12_swaps_22 : decode cX12_swaps 22 = .ok (.iadd, 1) := by decide +kernel
theorem dX12_swaps_23 : decode cX12_swaps 23 = .ok (.iaload, 1) := by decide +kernel
theorem dX12_swaps_24 : decode cX12_swaps 24 = .ok (.iastore, 1) := by decide +kernel
theorem dX12_swaps_25 : decode cX12_swaps 25 = .ok (.aload_n 0, 1) := by decide +kernel
theorem dX12_swaps_26 : decode cX12_swaps 26 = .ok (.getfield 50, 3) := by decide +kernel
theorem dX12_swaps_29 : decode cX12_swaps 29 = .ok (.iconst 0, 1) := by decide +kernel
theorem dX12_swaps_30 : decode cX12_swaps 30 = .ok (.iload_n 2, 1) := by decide +kernel
theorem dX12_swaps_31 : decode cX12_swaps 31 = .ok (.iadd, 1) := by decide +kernel
theorem dX12_swaps_32 : decode cX12_swaps 32 = .ok (.iload_n 3, 1) := by decide +kernel
theorem dX12_swaps_33 : decode cX12_swaps 33 = .ok (.iastore, 1) := by decide +kernel
theorem dX12_swaps_34 : decode cX12_swaps 34 = .ok (.return_, 1) := by decide +kernel
theorem dX12_swap_0 : decode cX12_swap 0 = .ok (.aload_n 0, 1) := by decide +kernel
theorem dX12_swap_1 : decode cX12_swap 1 = .ok (.iconst 0, 1) := by decide +kernel
theorem dX12_swap_2 : decode cX12_swap 2 = .ok (.putfield 177, 3) := by decide +kernel
theorem dX12_swap_5 : decode cX12_swap 5 = .ok (.aload_n 0, 1) := by decide +kernel
theorem dX12_swap_6 : decode cX12_swap 6 = .ok (.iload_n 1, 1) := by decide +kernel
theorem dX12_swap_7 : decode cX12_swap 7 = .ok (.iconst 1, 1) := by decide +kernel
theorem dX12_swap_8 : decode cX12_swap 8 = .ok (.invokevirtual 405, 3) := by decide +kernel
theorem dX12_swap_11 : decode cX12_swap 11 = .ok (.ifCond .ne 5, 3) := by decide +kernel
theorem dX12_swap_16 : decode cX12_swap 16 = .ok (.iconst (-1), 1) := by decide +kernel
theorem dX12_swap_17 : decode cX12_swap 17 = .ok (.istore_n 2, 1) := by decide +kernel
theorem dX12_swap_18 : decode cX12_swap 18 = .ok (.aload_n 0, 1) := by decide +kernel
theorem dX12_swap_19 : decode cX12_swap 19 = .ok (.invokevirtual 399, 3) := by decide +kernel
theorem dX12_swap_22 : decode cX12_swap 22 = .ok (.istore_n 3, 1) := by decide +kernel
theorem dX12_swap_23 : decode cX12_swap 23 = .ok (.iconst 0, 1) := by decide +kernel
theorem dX12_swap_24 : decode cX12_swap 24 = .ok (.istore 4, 2) := by decide +kernel
theorem dX12_swap_26 : decode cX12_swap 26 = .ok (.iload 4, 2) := by decide +kernel
theorem dX12_swap_28 : decode cX12_swap 28 = .ok (.aload_n 0, 1) := by decide +kernel
theorem dX12_swap_29 : decode cX12_swap 29 = .ok (.getfield 335, 3) := by decide +kernel
theorem dX12_swap_32 : decode cX12_swap 32 = .ok (.if_icmp .ge 73, 3) := by decide +kernel
theorem dX12_swap_105 : decode cX12_swap 105 = .ok (.iload_n 2, 1) := by decide +kernel
theorem dX12_swap_106 : decode cX12_swap 106 = .ok (.iconst (-1), 1) := by decide +kernel
theorem dX12_swap_119 : decode cX12_swap 119 = .ok (.ireturn, 1) := by decide +kernel
theorem dX12_swap_114 : decode cX12_swap 114 = .ok (.iload_n 2, 1) := by decide +kernel
theorem dX12_swap_115 : decode cX12_swap 115 = .ok (.goto 4, 3) := by decide +kernel
theorem dX12_swap_107 : decode cX12_swap 107 = .ok (.if_icmp .eq 7, 3) := by decide +kernel
theorem dX12_swap_110 : decode cX12_swap 110 = .ok (.iload_n 1, 1) := by decide +kernel
theorem dX12_swap_111 : decode cX12_swap 111 = .ok (.ifCond .ne 7, 3) := by decide +kernel
theorem dX12_swap_118 : decode cX12_swap 118 = .ok (.iload_n 3, 1) := by decide +kernel
theorem dX12_swap_35 : decode cX12_swap 35 = .ok (.iload 4, 2) := by decide +kernel
theorem dX12_swap_37 : decode cX12_swap 37 = .ok (.iconst 1, 1) := by decide +kernel
theorem dX12_swap_38 : decode cX12_swap 38 = .ok (.iadd, 1) := by decide +kernel
theorem dX12_swap_39 : decode cX12_swap 39 = .ok (.istore 5, 2) := by decide +kernel
theorem dX12_swap_41 : decode cX12_swap 41 = .ok (.iload 5, 2) := by decide +kernel
theorem dX12_swap_43 : decode cX12_swap 43 = .ok (.aload_n 0, 1) := by decide +kernel
theorem dX12_swap_44 : decode cX12_swap 44 = .ok (.getfield 335, 3) := by decide +kernel
theorem dX12_swap_47 : decode cX12_swap 47 = .ok (.if_icmp .ge 52, 3) := by decide +kernel
theorem dX12_swap_99 : decode cX12_swap 99 = .ok (.iinc 4 1, 3) := by decide +kernel
theorem dX12_swap_102 : decode cX12_swap 102 = .ok (.goto (-76), 3) := by decide +kernel
theorem dX12_swap_50 : decode cX12_swap 50 = .ok (.aload_n 0, 1) := by decide +kernel
theorem dX12_swap_51 : decode cX12_swap 51 = .ok (.iload 4, 2) := by decide +kernel
theorem dX12_swap_53 : decode cX12_swap 53 = .ok (.iload 5, 2) := by decide +kernel
theorem tw_1978 : (Jvm.Cond.methodLink "MarshBellsModel" (453 : Nat) ({ cls := "MarshBellsModel", name := "swaps", desc := "(II)V" } : Jvm.MethodName)) ∈ lw_tbl := tk_9 (List.mem_of_getElem? (i := 58) rfl)
theorem tw_1981 : (Jvm.Cond.code ({ cls := "MarshBellsModel", name := "swaps", desc := "(II)V" } : Jvm.MethodName) prog_14_method_76_code (4 : Nat) (Option.none : Option Jvm.ClassFile.FieldType)) ∈ lw_tbl := tk_9 (List.mem_of_getElem? (i := 61) rfl)
theorem tw_1980 : (Jvm.Cond.instanceMethod ({ cls := "MarshBellsModel", name := "swaps", desc := "(II)V" } : Jvm.MethodName)) ∈ lw_tbl := tk_9 (List.mem_of_getElem? (i := 60) rfl)
theorem se_X12_swaps : Cond.selects RX12 yX12_swaps yX12_swaps ∈ lw_tbl := List.mem_append_left _ (List.mem_of_getElem? (i := 152) rfl)
theorem li_X12_453 : kLV RX12 453 RX12 yX12_swaps cX12_swaps 4 none 2 := ⟨tw_1978, tw_1980, se_X12_swaps, tw_1981, tw_13, by decide +kernel⟩
theorem dX12_swap_55 : decode cX12_swap 55 = .ok (.invokevirtual 453, 3) := by decide +kernel
theorem dX12_swap_58 : decode cX12_swap 58 = .ok (.aload_n 0, 1) := by decide +kernel
theorem dX12_swap_59 : decode cX12_swap 59 = .ok (.invokevirtual 399, 3) := by decide +kernel
theorem dX12_swap_62 : decode cX12_swap 62 = .ok (.istore 6, 2) := by decide +kernel
theorem dX12_swap_64 : decode cX12_swap 64 = .ok (.aload_n 0, 1) := by decide +kernel
theorem dX12_swap_65 : decode cX12_swap 65 = .ok (.iload 4, 2) := by decide +kernel
theorem dX12_swap_67 : decode cX12_swap 67 = .ok (.iload 5, 2) := by decide +kernel
theorem dX12_swap_69 : decode cX12_swap 69 = .ok (.invokevirtual 453, 3) := by decide +kernel
theorem dX12_swap_72 : decode cX12_swap 72 = .ok (.iload 6, 2) := by decide +kernel
theorem dX12_swap_74 : decode cX12_swap 74 = .ok (.iload_n 3, 1) := by decide +kernel
theorem dX12_swap_93 : decode cX12_swap 93 = .ok (.iinc 5 1, 3) := by decide +kernel
theorem dX12_swap_96 : decode cX12_swap 96 = .ok (.goto (-55), 3) := by decide +kernel
theorem dX12_swap_75 : decode cX12_swap 75 = .ok (.if_icmp .lt 6, 3) := by decide +kernel
theorem dX12_swap_81 : decode cX12_swap 81 = .ok (.bipush 100, 2) := by decide +kernel
theorem dX12_swap_83 : decode cX12_swap 83 = .ok (.iload 4, 2) := by decide +kernel
theorem dX12_swap_85 : decode cX12_swap 85 = .ok (.imul, 1) := by decide +kernel
theorem dX12_swap_86 : decode cX12_swap 86 = .ok (.iload 5, 2) := by decide +kernel
theorem dX12_swap_88 : decode cX12_swap 88 = .ok (.iadd, 1) := by decide +kernel
theorem dX12_swap_89 : decode cX12_swap 89 = .ok (.istore_n 2, 1) := by decide +kernel
theorem dX12_swap_90 : decode cX12_swap 90 = .ok (.iload 6, 2) := by decide +kernel
theorem dX12_swap_92 : decode cX12_swap 92 = .ok (.istore_n 3, 1) := by decide +kernel
theorem dX12_swap_78 : decode cX12_swap 78 = .ok (.goto 15, 3) := by decide +kernel
theorem dX12_swap_14 : decode cX12_swap 14 = .ok (.iconst 0, 1) := by decide +kernel
theorem dX12_swap_15 : decode cX12_swap 15 = .ok (.ireturn, 1) := by decide +kernel
theorem dX12_bestOf_0 : decode cX12_bestOf 0 = .ok (.aload_n 0, 1) := by decide +kernel
theorem dX12_bestOf_1 : decode cX12_bestOf 1 = .ok (.getfield 50, 3) := by decide +kernel
theorem dX12_bestOf_4 : decode cX12_bestOf 4 = .ok (.iload_n 1, 1) := by decide +kernel
theorem dX12_bestOf_5 : decode cX12_bestOf 5 = .ok (.iaload, 1) := by decide +kernel
theorem dX12_bestOf_6 : decode cX12_bestOf 6 = .ok (.istore 4, 2) := by decide +kernel
theorem dX12_bestOf_8 : decode cX12_bestOf 8 = .ok (.iconst (-1), 1) := by decide +kernel
theorem dX12_bestOf_9 : decode cX12_bestOf 9 = .ok (.istore 5, 2) := by decide +kernel
theorem dX12_bestOf_11 : decode cX12_bestOf 11 = .ok (.iconst 0, 1) := by decide +kernel
theorem dX12_bestOf_12 : decode cX12_bestOf 12 = .ok (.istore 6, 2) := by decide +kernel
theorem dX12_bestOf_14 : decode cX12_bestOf 14 = .ok (.iconst 0, 1) := by decide +kernel
theorem dX12_bestOf_15 : decode cX12_bestOf 15 = .ok (.istore 7, 2) := by decide +kernel
theorem dX12_bestOf_17 : decode cX12_bestOf 17 = .ok (.iload 7, 2) := by decide +kernel
theorem dX12_bestOf_19 : decode cX12_bestOf 19 = .ok (.iload_n 2, 1) := by decide +kernel
theorem dX12_bestOf_20 : decode cX12_bestOf 20 = .ok (.if_icmp .gt 47, 3) := by decide +kernel
theorem dX12_bestOf_67 : decode cX12_bestOf 67 = .ok (.aload_n 0, 1) := by decide +kernel
theorem dX12_bestOf_68 : decode cX12_bestOf 68 = .ok (.getfield 50, 3) := by decide +kernel
theorem dX12_bestOf_71 : decode cX12_bestOf 71 = .ok (.iload_n 1, 1) := by decide +kernel
theorem dX12_bestOf_72 : decode cX12_bestOf 72 = .ok (.iload 4, 2) := by decide +kernel
theorem dX12_bestOf_74 : decode cX12_bestOf 74 = .ok (.iastore, 1) := by decide +kernel
theorem dX12_bestOf_75 : decode cX12_bestOf 75 = .ok (.iload_n 3, 1) := by decide +kernel
theorem dX12_bestOf_86 : decode cX12_bestOf 86 = .ok (.ireturn, 1) := by decide +kernel
theorem dX12_bestOf_76 : decode cX12_bestOf 76 = .ok (.ifCond .ne 8, 3) := by decide +kernel
theorem dX12_bestOf_84 : decode cX12_bestOf 84 = .ok (.iload 6, 2) := by decide +kernel
theorem dX12_bestOf_79 : decode cX12_bestOf 79 = .ok (.iload 5, 2) := by decide +kernel
theorem dX12_bestOf_81 : decode cX12_bestOf 81 = .ok (.goto 5, 3) := by decide +kernel
theorem dX12_bestOf_23 : decode cX12_bestOf 23 = .ok (.aload_n 0, 1) := by decide +kernel
theorem dX12_bestOf_24 : decode cX12_bestOf 24 = .ok (.getfield 50, 3) := by decide +kernel
theorem dX12_bestOf_27 : decode cX12_bestOf 27 = .ok (.iload_n 1, 1) := by decide +kernel
theorem dX12_bestOf_28 : decode cX12_bestOf 28 = .ok (.iload 7, 2) := by decide +kernel
theorem dX12_bestOf_30 : decode cX12_bestOf 30 = .ok (.iastore, 1) := by decide +kernel
theorem dX12_bestOf_31 : decode cX12_bestOf 31 = .ok (.aload_n 0, 1) := by decide +kernel
theorem dX12_bestOf_32 : decode cX12_bestOf 32 = .ok (.invokevirtual 399, 3) := by decide +kernel
theorem dX12_bestOf_35 : decode cX12_bestOf 35 = .ok (.istore 8, 2) := by decide +kernel
theorem dX12_bestOf_37 : decode cX12_bestOf 37 = .ok (.iload 5, 2) := by decide +kernel
theorem dX12_bestOf_39 : decode cX12_bestOf 39 = .ok (.iconst (-1), 1) := by decide +kernel
theorem dX12_bestOf_61 : decode cX12_bestOf 61 = .ok (.iinc 7 1, 3) := by decide +kernel
theorem dX12_bestOf_64 : decode cX12_bestOf 64 = .ok (.goto (-47), 3) := by decide +kernel
theorem dX12_bestOf_53 : decode cX12_bestOf 53 = .ok (.iload 7, 2) := by decide +kernel
theorem dX12_bestOf_55 : decode cX12_bestOf 55 = .ok (.istore 5, 2) := by decide +kernel
theorem dX12_bestOf_57 : decode cX12_bestOf 57 = .ok (.iload 8, 2) := by decide +kernel
theorem dX12_bestOf_59 : decode cX12_bestOf 59 = .ok (.istore 6, 2) := by decide +kernel
theorem dX12_bestOf_40 : decode cX12_bestOf 40 = .ok (.if_icmp .eq 13, 3) := by decide +kernel
theorem dX12_bestOf_43 : decode cX12_bestOf 43 = .ok (.iload 8, 2) := by decide +kernel
theorem dX12_bestOf_45 : decode cX12_bestOf 45 = .ok (.iload 6, 2) := by decide +kernel
theorem dX12_bestOf_47 : decode cX12_bestOf 47 = .ok (.if_icmp .lt 6, 3) := by decide +kernel
theorem dX12_bestOf_50 : decode cX12_bestOf 50 = .ok (.goto 11, 3) := by decide +kernel
theorem dX12_room_0 : decode cX12_room 0 = .ok (.aload_n 0, 1) := by decide +kernel
theorem dX12_room_1 : decode cX12_room 1 = .ok (.iconst 0, 1) := by decide +kernel
theorem dX12_room_2 : decode cX12_room 2 = .ok (.putfield 177, 3) := by decide +kernel
theorem dX12_room_5 : decode cX12_room 5 = .ok (.aload_n 0, 1) := by decide +kernel
theorem dX12_room_6 : decode cX12_room 6 = .ok (.iload_n 1, 1) := by decide +kernel
theorem dX12_room_7 : decode cX12_room 7 = .ok (.invokevirtual 402, 3) := by decide +kernel
theorem dX12_room_37 : decode cX12_room 37 = .ok (.ireturn, 1) := by decide +kernel
theorem dX12_room_36 : decode cX12_room 36 = .ok (.iconst 0, 1) := by decide +kernel
theorem dX12_room_10 : decode cX12_room 10 = .ok (.ifCond .eq 26, 3) := by decide +kernel
theorem dX12_room_13 : decode cX12_room 13 = .ok (.aload_n 0, 1) := by decide +kernel
theorem dX12_room_14 : decode cX12_room 14 = .ok (.iload_n 2, 1) := by decide +kernel
theorem dX12_room_15 : decode cX12_room 15 = .ok (.iconst 1, 1) := by decide +kernel
theorem dX12_room_16 : decode cX12_room 16 = .ok (.invokevirtual 405, 3) := by decide +kernel
theorem dX12_room_19 : decode cX12_room 19 = .ok (.ifCond .eq 17, 3) := by decide +kernel
theorem dX12_room_22 : decode cX12_room 22 = .ok (.aload_n 0, 1) := by decide +kernel
theorem dX12_room_23 : decode cX12_room 23 = .ok (.bipush 24, 2) := by decide +kernel
theorem dX12_room_25 : decode cX12_room 25 = .ok (.iload_n 1, 1) := by decide +kernel
theorem dX12_room_26 : decode cX12_room 26 = .ok (.iadd, 1) := by decide +kernel
theorem dX12_room_27 : decode cX12_room 27 = .ok (.bipush 9, 2) := by decide +kernel
theorem dX12_room_29 : decode cX12_room 29 = .ok (.iload_n 2, 1) := by decide +kernel
theorem tw_1986 : (Jvm.Cond.methodLink "MarshBellsModel" (456 : Nat) ({ cls := "MarshBellsModel", name := "bestOf", desc := "(III)I" } : Jvm.MethodName)) ∈ lw_tbl := tk_9 (List.mem_of_getElem? (i := 66) rfl)
theorem tw_1989 : (Jvm.Cond.code ({ cls := "MarshBellsModel", name := "bestOf", desc := "(III)I" } : Jvm.MethodName) prog_14_method_78_code (9 : Nat) (Option.some Jvm.ClassFile.FieldType.int)) ∈ lw_tbl := tk_9 (List.mem_of_getElem? (i := 69) rfl)
theorem tw_1988 : (Jvm.Cond.instanceMethod ({ cls := "MarshBellsModel", name := "bestOf", desc := "(III)I" } : Jvm.MethodName)) ∈ lw_tbl := tk_9 (List.mem_of_getElem? (i := 68) rfl)
theorem se_X12_bestOf : Cond.selects RX12 yX12_bestOf yX12_bestOf ∈ lw_tbl := List.mem_append_left _ (List.mem_of_getElem? (i := 153) rfl)
theorem li_X12_456 : kLV RX12 456 RX12 yX12_bestOf cX12_bestOf 9 (some .int) 3 := ⟨tw_1986, tw_1988, se_X12_bestOf, tw_1989, tw_13, by decide +kernel⟩
theorem dX12_room_30 : decode cX12_room 30 = .ok (.invokevirtual 456, 3) := by decide +kernel
theorem dX12_room_33 : decode cX12_room 33 = .ok (.goto 4, 3) := by decide +kernel
theorem dX12_limit_0 : decode cX12_limit 0 = .ok (.aload_n 0, 1) := by decide +kernel
theorem dX12_limit_1 : decode cX12_limit 1 = .ok (.iconst 0, 1) := by decide +kernel
theorem dX12_limit_2 : decode cX12_limit 2 = .ok (.putfield 177, 3) := by decide +kernel
theorem dX12_limit_5 : decode cX12_limit 5 = .ok (.aload_n 0, 1) := by decide +kernel
theorem dX12_limit_6 : decode cX12_limit 6 = .ok (.iload_n 1, 1) := by decide +kernel
theorem dX12_limit_7 : decode cX12_limit 7 = .ok (.invokevirtual 402, 3) := by decide +kernel
theorem dX12_limit_37 : decode cX12_limit 37 = .ok (.ireturn, 1) := by decide +kernel
theorem dX12_limit_36 : decode cX12_limit 36 = .ok (.iconst 0, 1) := by decide +kernel
theorem dX12_limit_10 : decode cX12_limit 10 = .ok (.ifCond .eq 26, 3) := by decide +kernel
theorem dX12_limit_13 : decode cX12_limit 13 = .ok (.aload_n 0, 1) := by decide +kernel
theorem dX12_limit_14 : decode cX12_limit 14 = .ok (.iload_n 2, 1) := by decide +kernel
theorem dX12_limit_15 : decode cX12_limit 15 = .ok (.iconst 1, 1) := by decide +kernel
theorem dX12_limit_16 : decode cX12_limit 16 = .ok (.invokevirtual 405, 3) := by decide +kernel
theorem dX12_limit_19 : decode cX12_limit 19 = .ok (.ifCond .eq 17, 3) := by decide +kernel
theorem dX12_limit_22 : decode cX12_limit 22 = .ok (.aload_n 0, 1) := by decide +kernel
theorem dX12_limit_23 : decode cX12_limit 23 = .ok (.bipush 36, 2) := by decide +kernel
theorem dX12_limit_25 : decode cX12_limit 25 = .ok (.iload_n 1, 1) := by decide +kernel
theorem dX12_limit_26 : decode cX12_limit 26 = .ok (.iadd, 1) := by decide +kernel
theorem dX12_limit_27 : decode cX12_limit 27 = .ok (.bipush 99, 2) := by decide +kernel
theorem dX12_limit_29 : decode cX12_limit 29 = .ok (.iload_n 2, 1) := by decide +kernel
theorem dX12_limit_30 : decode cX12_limit 30 = .ok (.invokevirtual 456, 3) := by decide +kernel
theorem dX12_limit_33 : decode cX12_limit 33 = .ok (.goto 4, 3) := by decide +kernel
theorem dX12_last_0 : decode cX12_last 0 = .ok (.aload_n 0, 1) := by decide +kernel
theorem dX12_last_1 : decode cX12_last 1 = .ok (.iconst 0, 1) := by decide +kernel
theorem dX12_last_2 : decode cX12_last 2 = .ok (.putfield 177, 3) := by decide +kernel
theorem dX12_last_5 : decode cX12_last 5 = .ok (.iconst (-1), 1) := by decide +kernel
theorem dX12_last_6 : decode cX12_last 6 = .ok (.istore_n 1, 1) := by decide +kernel
theorem dX12_last_7 : decode cX12_last 7 = .ok (.iconst 0, 1) := by decide +kernel
theorem dX12_last_8 : decode cX12_last 8 = .ok (.istore_n 2, 1) := by decide +kernel
theorem dX12_last_9 : decode cX12_last 9 = .ok (.iconst 0, 1) := by decide +kernel
theorem dX12_last_10 : decode cX12_last 10 = .ok (.istore_n 3, 1) := by decide +kernel
theorem dX12_last_11 : decode cX12_last 11 = .ok (.iload_n 3, 1) := by decide +kernel
theorem dX12_last_12 : decode cX12_last 12 = .ok (.aload_n 0, 1) := by decide +kernel
theorem dX12_last_13 : decode cX12_last 13 = .ok (.getfield 335, 3) := by decide +kernel
theorem dX12_last_16 : decode cX12_last 16 = .ok (.if_icmp .ge 63, 3) := by decide +kernel
theorem dX12_last_79 : decode cX12_last 79 = .ok (.iload_n 1, 1) := by decide +kernel
theorem dX12_last_80 : decode cX12_last 80 = .ok (.ireturn, 1) := by decide +kernel
theorem dX12_last_19 : decode cX12_last 19 = .ok (.aload_n 0, 1) := by decide +kernel
theorem dX12_last_20 : decode cX12_last 20 = .ok (.getfield 50, 3) := by decide +kernel
theorem dX12_last_23 : decode cX12_last 23 = .ok (.iconst 0, 1) := by decide +kernel
theorem dX12_last_24 : decode cX12_last 24 = .ok (.iload_n 3, 1) := by decide +kernel
theorem dX12_last_25 : decode cX12_last 25 = .ok (.iadd, 1) := by decide +kernel
theorem dX12_last_26 : decode cX12_last 26 = .ok (.iaload, 1) := by decide +kernel
theorem dX12_last_27 : decode cX12_last 27 = .ok (.istore 4, 2) := by decide +kernel
theorem dX12_last_29 : decode cX12_last 29 = .ok (.aload_n 0, 1) := by decide +kernel
theorem dX12_last_30 : decode cX12_last 30 = .ok (.getfield 50, 3) := by decide +kernel
theorem dX12_last_33 : decode cX12_last 33 = .ok (.iconst 0, 1) := by decide +kernel
theorem dX12_last_34 : decode cX12_last 34 = .ok (.iload_n 3, 1) := by decide +kernel
theorem dX12_last_35 : decode cX12_last 35 = .ok (.iadd, 1) := by decide +kernel
theorem dX12_last_36 : decode cX12_last 36 = .ok (.iconst 0, 1) := by decide +kernel
theorem dX12_last_37 : decode cX12_last 37 = .ok (.iastore, 1) := by decide +kernel
theorem dX12_last_38 : decode cX12_last 38 = .ok (.aload_n 0, 1) := by decide +kernel
theorem dX12_last_39 : decode cX12_last 39 = .ok (.invokevirtual 399, 3) := by decide +kernel
theorem dX12_last_42 : decode cX12_last 42 = .ok (.istore 5, 2) := by decide +kernel
theorem dX12_last_44 : decode cX12_last 44 = .ok (.aload_n 0, 1) := by decide +kernel
theorem dX12_last_45 : decode cX12_last 45 = .ok (.getfield 50, 3) := by decide +kernel
theorem dX12_last_48 : decode cX12_last 48 = .ok (.iconst 0, 1) := by decide +kernel
theorem dX12_last_49 : decode cX12_last 49 = .ok (.iload_n 3, 1) := by decide +kernel
theorem dX12_last_50 : decode cX12_last 50 = .ok (.iadd, 1) := by decide +kernel
theorem dX12_last_51 : decode cX12_last 51 = .ok (.iload 4, 2) := by decide +kernel
theorem dX12_last_53 : decode cX12_last 53 = .ok (.iastore, 1) := by decide +kernel
theorem dX12_last_54 : decode cX12_last 54 = .ok (.iload_n 1, 1) := by decide +kernel
theorem dX12_last_55 : decode cX12_last 55 = .ok (.iconst (-1), 1) := by decide +kernel
theorem dX12_last_73 : decode cX12_last 73 = .ok (.iinc 3 1, 3) := by decide +kernel
theorem dX12_last_76 : decode cX12_last 76 = .ok (.goto (-65), 3) := by decide +kernel
theorem dX12_last_68 : decode cX12_last 68 = .ok (.iload_n 3, 1) := by decide +kernel
theorem dX12_last_69 : decode cX12_last 69 = .ok (.istore_n 1, 1) := by decide +kernel
theorem dX12_last_70 : decode cX12_last 70 = .ok (.iload 5, 2) := by decide +kernel
theorem dX12_last_72 : decode cX12_last 72 = .ok (.istore_n 2, 1) := by decide +kernel
theorem dX12_last_56 : decode cX12_last 56 = .ok (.if_icmp .eq 12, 3) := by decide +kernel
theorem dX12_last_59 : decode cX12_last 59 = .ok (.iload 5, 2) := by decide +kernel
theorem dX12_last_61 : decode cX12_last 61 = .ok (.iload_n 2, 1) := by decide +kernel
theorem dX12_last_62 : decode cX12_last 62 = .ok (.if_icmp .lt 6, 3) := by decide +kernel
theorem dX12_last_65 : decode cX12_last 65 = .ok (.goto 8, 3) := by decide +kernel
theorem dX12_lostBy_0 : decode cX12_lostBy 0 = .ok (.aload_n 0, 1) := by decide +kernel
theorem dX12_lostBy_1 : decode cX12_lostBy 1 = .ok (.getfield 105, 3) := by decide +kernel
theorem dX12_lostBy_4 : decode cX12_lostBy 4 = .ok (.istore_n 2, 1) := by decide +kernel
theorem dX12_lostBy_5 : decode cX12_lostBy 5 = .ok (.aload_n 0, 1) := by decide +kernel
theorem dX12_lostBy_6 : decode cX12_lostBy 6 = .ok (.iload_n 1, 1) := by decide +kernel
theorem dX12_lostBy_7 : decode cX12_lostBy 7 = .ok (.putfield 105, 3) := by decide +kernel
theorem dX12_lostBy_10 : decode cX12_lostBy 10 = .ok (.aload_n 0, 1) := by decide +kernel
theorem dX12_lostBy_11 : decode cX12_lostBy 11 = .ok (.invokevirtual 399, 3) := by decide +kernel
theorem dX12_lostBy_14 : decode cX12_lostBy 14 = .ok (.istore_n 3, 1) := by decide +kernel
theorem dX12_lostBy_15 : decode cX12_lostBy 15 = .ok (.aload_n 0, 1) := by decide +kernel
theorem dX12_lostBy_16 : decode cX12_lostBy 16 = .ok (.iload_n 2, 1) := by decide +kernel
theorem dX12_lostBy_17 : decode cX12_lostBy 17 = .ok (.putfield 105, 3) := by decide +kernel
theorem dX12_lostBy_20 : decode cX12_lostBy 20 = .ok (.iload_n 3, 1) := by decide +kernel
theorem dX12_lostBy_21 : decode cX12_lostBy 21 = .ok (.ireturn, 1) := by decide +kernel
theorem dX12_compare_0 : decode cX12_compare 0 = .ok (.aload_n 0, 1) := by decide +kernel
theorem dX12_compare_1 : decode cX12_compare 1 = .ok (.iconst 0, 1) := by decide +kernel
theorem dX12_compare_2 : decode cX12_compare 2 = .ok (.putfield 177, 3) := by decide +kernel
theorem dX12_compare_5 : decode cX12_compare 5 = .ok (.aload_n 0, 1) := by decide +kernel
theorem dX12_compare_6 : decode cX12_compare 6 = .ok (.iload_n 1, 1) := by decide +kernel
theorem dX12_compare_7 : decode cX12_compare 7 = .ok (.iconst (-1), 1) := by decide +kernel
theorem dX12_compare_24 : decode cX12_compare 24 = .ok (.iconst 1, 1) := by decide +kernel
theorem dX12_compare_25 : decode cX12_compare 25 = .ok (.invokevirtual 328, 3) := by decide +kernel
theorem dX12_compare_40 : decode cX12_compare 40 = .ok (.ireturn, 1) := by decide +kernel
theorem dX12_compare_28 : decode cX12_compare 28 = .ok (.ifCond .eq 11, 3) := by decide +kernel
theorem dX12_compare_39 : decode cX12_compare 39 = .ok (.iconst 0, 1) := by decide +kernel
theorem dX12_compare_31 : decode cX12_compare 31 = .ok (.aload_n 0, 1) := by decide +kernel
theorem dX12_compare_32 : decode cX12_compare 32 = .ok (.iload_n 1, 1) := by decide +kernel
theorem tw_2002 : (Jvm.Cond.methodLink "MarshBellsModel" (459 : Nat) ({ cls := "MarshBellsModel", name := "lostBy", desc := "(I)I" } : Jvm.MethodName)) ∈ lw_tbl := tk_9 (List.mem_of_getElem? (i := 82) rfl)
theorem tw_2005 : (Jvm.Cond.code ({ cls := "MarshBellsModel", name := "lostBy", desc := "(I)I" } : Jvm.MethodName) prog_14_method_82_code (4 : Nat) (Option.some Jvm.ClassFile.FieldType.int)) ∈ lw_tbl := tk_9 (List.mem_of_getElem? (i := 85) rfl)
theorem tw_2004 : (Jvm.Cond.instanceMethod ({ cls := "MarshBellsModel", name := "lostBy", desc := "(I)I" } : Jvm.MethodName)) ∈ lw_tbl := tk_9 (List.mem_of_getElem? (i := 84) rfl)
theorem se_X12_lostBy : Cond.selects RX12 yX12_lostBy yX12_lostBy ∈ lw_tbl := List.mem_append_left _ (List.mem_of_getElem? (i := 154) rfl)
theorem li_X12_459 : kLV RX12 459 RX12 yX12_lostBy cX12_lostBy 4 (some .int) 1 := ⟨tw_2002, tw_2004, se_X12_lostBy, tw_2005, tw_13, by decide +kernel⟩
theorem dX12_compare_33 : decode cX12_compare 33 = .ok (.invokevirtual 459, 3) := by decide +kernel
theorem dX12_compare_36 : decode cX12_compare 36 = .ok (.goto 4, 3) := by decide +kernel
theorem dX12_compare_23 : decode cX12_compare 23 = .ok (.iconst 0, 1) := by decide +kernel
theorem dX12_compare_8 : decode cX12_compare 8 = .ok (.if_icmp .lt 15, 3) := by decide +kernel
theorem dX12_compare_11 : decode cX12_compare 11 = .ok (.iload_n 1, 1) := by decide +kernel
theorem dX12_compare_12 : decode cX12_compare 12 = .ok (.aload_n 0, 1) := by decide +kernel
theorem dX12_compare_13 : decode cX12_compare 13 = .ok (.getfield 338, 3) := by decide +kernel
theorem dX12_compare_16 : decode cX12_compare 16 = .ok (.if_icmp .ge 7, 3) := by decide +kernel
theorem dX12_compare_19 : decode cX12_compare 19 = .ok (.iconst 1, 1) := by decide +kernel
theorem dX12_compare_20 : decode cX12_compare 20 = .ok (.goto 4, 3) := by decide +kernel
theorem dX12_best_0 : decode cX12_best 0 = .ok (.aload_n 0, 1) := by decide +kernel
theorem dX12_best_1 : decode cX12_best 1 = .ok (.iconst 0, 1) := by decide +kernel
theorem dX12_best_2 : decode cX12_best 2 = .ok (.putfield 177, 3) := by decide +kernel
theorem dX12_best_5 : decode cX12_best 5 = .ok (.iconst (-1), 1) := by decide +kernel
theorem dX12_best_6 : decode cX12_best 6 = .ok (.istore_n 1, 1) := by decide +kernel
theorem dX12_best_7 : decode cX12_best 7 = .ok (.iconst 0, 1) := by decide +kernel
theorem dX12_best_8 : decode cX12_best 8 = .ok (.istore_n 2, 1) := by decide +kernel
theorem dX12_best_9 : decode cX12_best 9 = .ok (.iload_n 2, 1) := by decide +kernel
theorem dX12_best_10 : decode cX12_best 10 = .ok (.aload_n 0, 1) := by decide +kernel
theorem dX12_best_11 : decode cX12_best 11 = .ok (.getfield 338, 3) := by decide +kernel
theorem dX12_best_14 : decode cX12_best 14 = .ok (.if_icmp .ge 24, 3) := by decide +kernel
theorem dX12_best_38 : decode cX12_best 38 = .ok (.iload_n 1, 1) := by decide +kernel
theorem dX12_best_39 : decode cX12_best 39 = .ok (.ireturn, 1) := by decide +kernel
theorem dX12_best_17 : decode cX12_best 17 = .ok (.aload_n 0, 1) := by decide +kernel
theorem dX12_best_18 : decode cX12_best 18 = .ok (.iload_n 2, 1) := by decide +kernel
theorem dX12_best_19 : decode cX12_best 19 = .ok (.invokevirtual 459, 3) := by decide +kernel
theorem dX12_best_22 : decode cX12_best 22 = .ok (.aload_n 0, 1) := by decide +kernel
theorem dX12_best_23 : decode cX12_best 23 = .ok (.iload_n 1, 1) := by decide +kernel
theorem dX12_best_24 : decode cX12_best 24 = .ok (.invokevirtual 459, 3) := by decide +kernel
theorem dX12_best_32 : decode cX12_best 32 = .ok (.iinc 2 1, 3) := by decide +kernel
theorem dX12_best_35 : decode cX12_best 35 = .ok (.goto (-26), 3) := by decide +kernel
theorem dX12_best_27 : decode cX12_best 27 = .ok (.if_icmp .ge 5, 3) := by decide +kernel
theorem dX12_best_30 : decode cX12_best 30 = .ok (.iload_n 2, 1) := by decide +kernel
theorem dX12_best_31 : decode cX12_best 31 = .ok (.istore_n 1, 1) := by decide +kernel
theorem tw_1495 : (Jvm.Cond.fieldLink "MarshBellsModel" (150 : Nat) "MarshBellsModel" "then" "[I") ∈ lw_tbl := tk_7 (List.mem_of_getElem? (i := 55) rfl)
theorem fl_X12_150 : kFL RX12 150 12 88 72 := ⟨RX12, TX12, rfl, by decide, inWX12, tw_1495⟩
theorem dX12_bell_0 : decode cX12_bell 0 = .ok (.aload_n 0, 1) := by decide +kernel
theorem dX12_bell_1 : decode cX12_bell 1 = .ok (.iconst 0, 1) := by decide +kernel
theorem dX12_bell_2 : decode cX12_bell 2 = .ok (.putfield 177, 3) := by decide +kernel
theorem dX12_bell_5 : decode cX12_bell 5 = .ok (.aload_n 0, 1) := by decide +kernel
theorem dX12_bell_6 : decode cX12_bell 6 = .ok (.iload_n 1, 1) := by decide +kernel
theorem dX12_bell_7 : decode cX12_bell 7 = .ok (.iconst 0, 1) := by decide +kernel
theorem dX12_bell_8 : decode cX12_bell 8 = .ok (.bipush 60, 2) := by decide +kernel
theorem dX12_bell_10 : decode cX12_bell 10 = .ok (.invokestatic 392, 3) := by decide +kernel
theorem dX12_bell_13 : decode cX12_bell 13 = .ok (.iconst 1, 1) := by decide +kernel
theorem dX12_bell_14 : decode cX12_bell 14 = .ok (.invokevirtual 328, 3) := by decide +kernel
theorem dX12_bell_17 : decode cX12_bell 17 = .ok (.ifCond .ne 5, 3) := by decide +kernel
theorem dX12_bell_22 : decode cX12_bell 22 = .ok (.aload_n 0, 1) := by decide +kernel
theorem dX12_bell_23 : decode cX12_bell 23 = .ok (.invokevirtual 399, 3) := by decide +kernel
theorem dX12_bell_26 : decode cX12_bell 26 = .ok (.istore_n 2, 1) := by decide +kernel
theorem dX12_bell_27 : decode cX12_bell 27 = .ok (.aload_n 0, 1) := by decide +kernel
theorem dX12_bell_28 : decode cX12_bell 28 = .ok (.aload_n 0, 1) := by decide +kernel
theorem dX12_bell_29 : decode cX12_bell 29 = .ok (.getfield 50, 3) := by decide +kernel
theorem dX12_bell_32 : decode cX12_bell 32 = .ok (.aload_n 0, 1) := by decide +kernel
theorem dX12_bell_33 : decode cX12_bell 33 = .ok (.getfield 150, 3) := by decide +kernel
theorem dX12_bell_36 : decode cX12_bell 36 = .ok (.invokevirtual 341, 3) := by decide +kernel
theorem dX12_bell_39 : decode cX12_bell 39 = .ok (.iconst 0, 1) := by decide +kernel
theorem dX12_bell_40 : decode cX12_bell 40 = .ok (.istore_n 3, 1) := by decide +kernel
theorem dX12_bell_41 : decode cX12_bell 41 = .ok (.iload_n 3, 1) := by decide +kernel
theorem dX12_bell_42 : decode cX12_bell 42 = .ok (.aload_n 0, 1) := by decide +kernel
theorem dX12_bell_43 : decode cX12_bell 43 = .ok (.getfield 335, 3) := by decide +kernel
theorem dX12_bell_46 : decode cX12_bell 46 = .ok (.if_icmp .ge 30, 3) := by decide +kernel
theorem dX12_bell_76 : decode cX12_bell 76 = .ok (.iload_n 2, 1) := by decide +kernel
theorem dX12_bell_77 : decode cX12_bell 77 = .ok (.aload_n 0, 1) := by decide +kernel
theorem dX12_bell_78 : decode cX12_bell 78 = .ok (.invokevirtual 399, 3) := by decide +kernel
theorem dX12_bell_81 : decode cX12_bell 81 = .ok (.isub, 1) := by decide +kernel
theorem dX12_bell_82 : decode cX12_bell 82 = .ok (.istore_n 2, 1) := by decide +kernel
theorem dX12_bell_83 : decode cX12_bell 83 = .ok (.aload_n 0, 1) := by decide +kernel
theorem dX12_bell_84 : decode cX12_bell 84 = .ok (.aload_n 0, 1) := by decide +kernel
theorem dX12_bell_85 : decode cX12_bell 85 = .ok (.getfield 150, 3) := by decide +kernel
theorem dX12_bell_88 : decode cX12_bell 88 = .ok (.aload_n 0, 1) := by decide +kernel
theorem dX12_bell_89 : decode cX12_bell 89 = .ok (.getfield 50, 3) := by decide +kernel
theorem dX12_bell_92 : decode cX12_bell 92 = .ok (.invokevirtual 341, 3) := by decide +kernel
theorem dX12_bell_95 : decode cX12_bell 95 = .ok (.iload_n 2, 1) := by decide +kernel
theorem dX12_bell_96 : decode cX12_bell 96 = .ok (.ireturn, 1) := by decide +kernel
theorem dX12_bell_49 : decode cX12_bell 49 = .ok (.aload_n 0, 1) := by decide +kernel
theorem dX12_bell_50 : decode cX12_bell 50 = .ok (.getfield 50, 3) := by decide +kernel
theorem dX12_bell_53 : decode cX12_bell 53 = .ok (.iconst 0, 1) := by decide +kernel
theorem dX12_bell_54 : decode cX12_bell 54 = .ok (.iload_n 3, 1) := by decide +kernel
theorem dX12_bell_55 : decode cX12_bell 55 = .ok (.iadd, 1) := by decide +kernel
theorem dX12_bell_56 : decode cX12_bell 56 = .ok (.iaload, 1) := by decide +kernel
theorem dX12_bell_57 : decode cX12_bell 57 = .ok (.iload_n 1, 1) := by decide +kernel
theorem dX12_bell_70 : decode cX12_bell 70 = .ok (.iinc 3 1, 3) := by decide +kernel
theorem dX12_bell_73 : decode cX12_bell 73 = .ok (.goto (-32), 3) := by decide +kernel
theorem dX12_bell_58 : decode cX12_bell 58 = .ok (.if_icmp .le 12, 3) := by decide +kernel
theorem dX12_bell_61 : decode cX12_bell 61 = .ok (.aload_n 0, 1) := by decide +kernel
theorem dX12_bell_62 : decode cX12_bell 62 = .ok (.getfield 50, 3) := by decide +kernel
theorem dX12_bell_65 : decode cX12_bell 65 = .ok (.iconst 0, 1) := by decide +kernel
theorem dX12_bell_66 : decode cX12_bell 66 = .ok (.iload_n 3, 1) := by decide +kernel
theorem dX12_bell_67 : decode cX12_bell 67 = .ok (.iadd, 1) := by decide +kernel
theorem dX12_bell_68 : decode cX12_bell 68 = .ok (.iload_n 1, 1) := by decide +kernel
theorem dX12_bell_69 : decode cX12_bell 69 = .ok (.iastore, 1) := by decide +kernel
theorem dX12_bell_20 : decode cX12_bell 20 = .ok (.iconst 0, 1) := by decide +kernel
theorem dX12_bell_21 : decode cX12_bell 21 = .ok (.ireturn, 1) := by decide +kernel
theorem dX12_harm_0 : decode cX12_harm 0 = .ok (.aload_n 0, 1) := by decide +kernel
theorem dX12_harm_1 : decode cX12_harm 1 = .ok (.iconst 0, 1) := by decide +kernel
theorem dX12_harm_2 : decode cX12_harm 2 = .ok (.putfield 177, 3) := by decide +kernel
theorem dX12_harm_5 : decode cX12_harm 5 = .ok (.aload_n 0, 1) := by decide +kernel
theorem dX12_harm_6 : decode cX12_harm 6 = .ok (.iload_n 1, 1) := by decide +kernel
theorem dX12_harm_7 : decode cX12_harm 7 = .ok (.invokevirtual 402, 3) := by decide +kernel
theorem dX12_harm_21 : decode cX12_harm 21 = .ok (.iconst 0, 1) := by decide +kernel
theorem dX12_harm_22 : decode cX12_harm 22 = .ok (.ireturn, 1) := by decide +kernel
theorem dX12_harm_10 : decode cX12_harm 10 = .ok (.ifCond .eq 11, 3) := by decide +kernel
theorem dX12_harm_13 : decode cX12_harm 13 = .ok (.aload_n 0, 1) := by decide +kernel
theorem dX12_harm_14 : decode cX12_harm 14 = .ok (.iload_n 2, 1) := by decide +kernel
theorem dX12_harm_15 : decode cX12_harm 15 = .ok (.invokevirtual 402, 3) := by decide +kernel
theorem dX12_harm_18 : decode cX12_harm 18 = .ok (.ifCond .ne 5, 3) := by decide +kernel
theorem dX12_harm_23 : decode cX12_harm 23 = .ok (.aload_n 0, 1) := by decide +kernel
theorem dX12_harm_24 : decode cX12_harm 24 = .ok (.invokevirtual 386, 3) := by decide +kernel
theorem dX12_harm_27 : decode cX12_harm 27 = .ok (.aload_n 0, 1) := by decide +kernel
theorem dX12_harm_28 : decode cX12_harm 28 = .ok (.iload_n 2, 1) := by decide +kernel
theorem dX12_harm_29 : decode cX12_harm 29 = .ok (.invokevirtual 389, 3) := by decide +kernel
theorem dX12_harm_32 : decode cX12_harm 32 = .ok (.istore_n 3, 1) := by decide +kernel
theorem dX12_harm_33 : decode cX12_harm 33 = .ok (.aload_n 0, 1) := by decide +kernel
theorem dX12_harm_34 : decode cX12_harm 34 = .ok (.getfield 50, 3) := by decide +kernel
theorem dX12_harm_37 : decode cX12_harm 37 = .ok (.iconst 0, 1) := by decide +kernel
theorem dX12_harm_38 : decode cX12_harm 38 = .ok (.iload_n 1, 1) := by decide +kernel
theorem dX12_harm_39 : decode cX12_harm 39 = .ok (.iadd, 1) := by decide +kernel
theorem dX12_harm_40 : decode cX12_harm 40 = .ok (.iaload, 1) := by decide +kernel
theorem dX12_harm_41 : decode cX12_harm 41 = .ok (.istore 4, 2) := by decide +kernel
theorem dX12_harm_43 : decode cX12_harm 43 = .ok (.aload_n 0, 1) := by decide +kernel
theorem dX12_harm_44 : decode cX12_harm 44 = .ok (.getfield 50, 3) := by decide +kernel
theorem dX12_harm_47 : decode cX12_harm 47 = .ok (.iconst 0, 1) := by decide +kernel
theorem dX12_harm_48 : decode cX12_harm 48 = .ok (.iload_n 1, 1) := by decide +kernel
theorem dX12_harm_49 : decode cX12_harm 49 = .ok (.iadd, 1) := by decide +kernel
theorem dX12_harm_50 : decode cX12_harm 50 = .ok (.iconst 0, 1) := by decide +kernel
theorem dX12_harm_51 : decode cX12_harm 51 = .ok (.iastore, 1) := by decide +kernel
theorem dX12_harm_52 : decode cX12_harm 52 = .ok (.aload_n 0, 1) := by decide +kernel
theorem dX12_harm_53 : decode cX12_harm 53 = .ok (.invokevirtual 386, 3) := by decide +kernel
theorem dX12_harm_56 : decode cX12_harm 56 = .ok (.aload_n 0, 1) := by decide +kernel
theorem dX12_harm_57 : decode cX12_harm 57 = .ok (.getfield 50, 3) := by decide +kernel
theorem dX12_harm_60 : decode cX12_harm 60 = .ok (.iconst 0, 1) := by decide +kernel
theorem dX12_harm_61 : decode cX12_harm 61 = .ok (.iload_n 1, 1) := by decide +kernel
theorem dX12_harm_62 : decode cX12_harm 62 = .ok (.iadd, 1) := by decide +kernel
theorem dX12_harm_63 : decode cX12_harm 63 = .ok (.iload 4, 2) := by decide +kernel
theorem dX12_harm_65 : decode cX12_harm 65 = .ok (.iastore, 1) := by decide +kernel
theorem dX12_harm_66 : decode cX12_harm 66 = .ok (.iload_n 3, 1) := by decide +kernel
theorem dX12_harm_67 : decode cX12_harm 67 = .ok (.aload_n 0, 1) := by decide +kernel
theorem dX12_harm_68 : decode cX12_harm 68 = .ok (.iload_n 2, 1) := by decide +kernel
theorem dX12_harm_69 : decode cX12_harm 69 = .ok (.invokevirtual 389, 3) := by decide +kernel
theorem dX12_harm_72 : decode cX12_harm 72 = .ok (.isub, 1) := by decide +kernel
theorem dX12_harm_73 : decode cX12_harm 73 = .ok (.ireturn, 1) := by decide +kernel
theorem dX12_pair_0 : decode cX12_pair 0 = .ok (.aload_n 0, 1) := by decide +kernel
theorem dX12_pair_1 : decode cX12_pair 1 = .ok (.iconst 0, 1) := by decide +kernel
theorem dX12_pair_2 : decode cX12_pair 2 = .ok (.putfield 177, 3) := by decide +kernel
theorem dX12_pair_5 : decode cX12_pair 5 = .ok (.aload_n 0, 1) := by decide +kernel
theorem dX12_pair_6 : decode cX12_pair 6 = .ok (.iload_n 1, 1) := by decide +kernel
theorem dX12_pair_7 : decode cX12_pair 7 = .ok (.iconst 1, 1) := by decide +kernel
theorem dX12_pair_8 : decode cX12_pair 8 = .ok (.invokevirtual 405, 3) := by decide +kernel
theorem dX12_pair_11 : decode cX12_pair 11 = .ok (.ifCond .ne 5, 3) := by decide +kernel
theorem dX12_pair_16 : decode cX12_pair 16 = .ok (.iconst (-1), 1) := by decide +kernel
theorem dX12_pair_17 : decode cX12_pair 17 = .ok (.istore_n 2, 1) := by decide +kernel
theorem dX12_pair_18 : decode cX12_pair 18 = .ok (.iconst 0, 1) := by decide +kernel
theorem dX12_pair_19 : decode cX12_pair 19 = .ok (.istore_n 3, 1) := by decide +kernel
theorem dX12_pair_20 : decode cX12_pair 20 = .ok (.aload_n 0, 1) := by decide +kernel
theorem dX12_pair_21 : decode cX12_pair 21 = .ok (.aload_n 0, 1) := by decide +kernel
theorem dX12_pair_22 : decode cX12_pair 22 = .ok (.getfield 50, 3) := by decide +kernel
theorem dX12_pair_25 : decode cX12_pair 25 = .ok (.aload_n 0, 1) := by decide +kernel
theorem dX12_pair_26 : decode cX12_pair 26 = .ok (.getfield 150, 3) := by decide +kernel
theorem dX12_pair_29 : decode cX12_pair 29 = .ok (.invokevirtual 341, 3) := by decide +kernel
theorem dX12_pair_32 : decode cX12_pair 32 = .ok (.iconst 0, 1) := by decide +kernel
theorem dX12_pair_33 : decode cX12_pair 33 = .ok (.istore 4, 2) := by decide +kernel
theorem dX12_pair_35 : decode cX12_pair 35 = .ok (.iload 4, 2) := by decide +kernel
theorem dX12_pair_37 : decode cX12_pair 37 = .ok (.aload_n 0, 1) := by decide +kernel
theorem dX12_pair_38 : decode cX12_pair 38 = .ok (.getfield 335, 3) := by decide +kernel
theorem dX12_pair_41 : decode cX12_pair 41 = .ok (.if_icmp .ge 94, 3) := by decide +kernel
theorem dX12_pair_135 : decode cX12_pair 135 = .ok (.iload_n 2, 1) := by decide +kernel
theorem dX12_pair_136 : decode cX12_pair 136 = .ok (.iconst (-1), 1) := by decide +kernel
theorem dX12_pair_149 : decode cX12_pair 149 = .ok (.ireturn, 1) := by decide +kernel
theorem dX12_pair_144 : decode cX12_pair 144 = .ok (.iload_n 2, 1) := by decide +kernel
theorem dX12_pair_145 : decode cX12_pair 145 = .ok (.goto 4, 3) := by decide +kernel
theorem dX12_pair_137 : decode cX12_pair 137 = .ok (.if_icmp .eq 7, 3) := by decide +kernel
theorem dX12_pair_140 : decode cX12_pair 140 = .ok (.iload_n 1, 1) := by decide +kernel
theorem dX12_pair_141 : decode cX12_pair 141 = .ok (.ifCond .ne 7, 3) := by decide +kernel
theorem dX12_pair_148 : decode cX12_pair 148 = .ok (.iload_n 3, 1) := by decide +kernel
theorem dX12_pair_44 : decode cX12_pair 44 = .ok (.iload 4, 2) := by decide +kernel
theorem dX12_pair_46 : decode cX12_pair 46 = .ok (.iconst 1, 1) := by decide +kernel
theorem dX12_pair_47 : decode cX12_pair 47 = .ok (.iadd, 1) := by decide +kernel
theorem dX12_pair_48 : decode cX12_pair 48 = .ok (.istore 5, 2) := by decide +kernel
theorem dX12_pair_50 : decode cX12_pair 50 = .ok (.iload 5, 2) := by decide +kernel
theorem dX12_pair_52 : decode cX12_pair 52 = .ok (.aload_n 0, 1) := by decide +kernel
theorem dX12_pair_53 : decode cX12_pair 53 = .ok (.getfield 335, 3) := by decide +kernel
theorem dX12_pair_56 : decode cX12_pair 56 = .ok (.if_icmp .ge 73, 3) := by decide +kernel
theorem dX12_pair_129 : decode cX12_pair 129 = .ok (.iinc 4 1, 3) := by decide +kernel
theorem dX12_pair_132 : decode cX12_pair 132 = .ok (.goto (-97), 3) := by decide +kernel
theorem dX12_pair_59 : decode cX12_pair 59 = .ok (.aload_n 0, 1) := by decide +kernel
theorem dX12_pair_60 : decode cX12_pair 60 = .ok (.getfield 50, 3) := by decide +kernel
theorem dX12_pair_63 : decode cX12_pair 63 = .ok (.iconst 0, 1) := by decide +kernel
theorem dX12_pair_64 : decode cX12_pair 64 = .ok (.iload 4, 2) := by decide +kernel
theorem dX12_pair_66 : decode cX12_pair 66 = .ok (.iadd, 1) := by decide +kernel
theorem dX12_pair_67 : decode cX12_pair 67 = .ok (.iconst 0, 1) := by decide +kernel
theorem dX12_pair_68 : decode cX12_pair 68 = .ok (.iastore, 1) := by decide +kernel
theorem dX12_pair_69 : decode cX12_pair 69 = .ok (.aload_n 0, 1) := by decide +kernel
theorem dX12_pair_70 : decode cX12_pair 70 = .ok (.getfield 50, 3) := by decide +kernel
theorem dX12_pair_73 : decode cX12_pair 73 = .ok (.iconst 0, 1) := by decide +kernel
theorem dX12_pair_74 : decode cX12_pair 74 = .ok (.iload 5, 2) := by decide +kernel
theorem dX12_pair_76 : decode cX12_pair 76 = .ok (.iadd, 1) := by decide +kernel
theorem dX12_pair_77 : decode cX12_pair 77 = .ok (.iconst 0, 1) := by decide +kernel
theorem dX12_pair_78 : decode cX12_pair 78 = .ok (.iastore, 1) := by decide +kernel
theorem dX12_pair_79 : decode cX12_pair 79 = .ok (.aload_n 0, 1) := by decide +kernel
theorem dX12_pair_80 : decode cX12_pair 80 = .ok (.invokevirtual 399, 3) := by decide +kernel
theorem dX12_pair_83 : decode cX12_pair 83 = .ok (.istore 6, 2) := by decide +kernel
theorem dX12_pair_85 : decode cX12_pair 85 = .ok (.aload_n 0, 1) := by decide +kernel
theorem dX12_pair_86 : decode cX12_pair 86 = .ok (.aload_n 0, 1) := by decide +kernel
theorem dX12_pair_87 : decode cX12_pair 87 = .ok (.getfield 150, 3) := by decide +kernel
theorem dX12_pair_90 : decode cX12_pair 90 = .ok (.aload_n 0, 1) := by decide +kernel
theorem dX12_pair_91 : decode cX12_pair 91 = .ok (.getfield 50, 3) := by decide +kernel
theorem dX12_pair_94 : decode cX12_pair 94 = .ok (.invokevirtual 341, 3) := by decide +kernel
theorem dX12_pair_97 : decode cX12_pair 97 = .ok (.iload_n 2, 1) := by decide +kernel
theorem dX12_pair_98 : decode cX12_pair 98 = .ok (.iconst (-1), 1) := by decide +kernel
theorem dX12_pair_123 : decode cX12_pair 123 = .ok (.iinc 5 1, 3) := by decide +kernel
theorem dX12_pair_126 : decode cX12_pair 126 = .ok (.goto (-76), 3) := by decide +kernel
theorem dX12_pair_111 : decode cX12_pair 111 = .ok (.bipush 100, 2) := by decide +kernel
theorem dX12_pair_113 : decode cX12_pair 113 = .ok (.iload 4, 2) := by decide +kernel
theorem dX12_pair_115 : decode cX12_pair 115 = .ok (.imul, 1) := by decide +kernel
theorem dX12_pair_116 : decode cX12_pair 116 = .ok (.iload 5, 2) := by decide +kernel
theorem dX12_pair_118 : decode cX12_pair 118 = .ok (.iadd, 1) := by decide +kernel
theorem dX12_pair_119 : decode cX12_pair 119 = .ok (.istore_n 2, 1) := by decide +kernel
theorem dX12_pair_120 : decode cX12_pair 120 = .ok (.iload 6, 2) := by decide +kernel
theorem dX12_pair_122 : decode cX12_pair 122 = .ok (.istore_n 3, 1) := by decide +kernel
theorem dX12_pair_99 : decode cX12_pair 99 = .ok (.if_icmp .eq 12, 3) := by decide +kernel
theorem dX12_pair_102 : decode cX12_pair 102 = .ok (.iload 6, 2) := by decide +kernel
theorem dX12_pair_104 : decode cX12_pair 104 = .ok (.iload_n 3, 1) := by decide +kernel
theorem dX12_pair_105 : decode cX12_pair 105 = .ok (.if_icmp .lt 6, 3) := by decide +kernel
theorem dX12_pair_108 : decode cX12_pair 108 = .ok (.goto 15, 3) := by decide +kernel
theorem dX12_pair_14 : decode cX12_pair 14 = .ok (.iconst 0, 1) := by decide +kernel
theorem dX12_pair_15 : decode cX12_pair 15 = .ok (.ireturn, 1) := by decide +kernel
theorem dX12_pause_0 : decode cX12_pause 0 = .ok (.aload_n 0, 1) := by decide +kernel
theorem dX12_pause_1 : decode cX12_pause 1 = .ok (.iconst 0, 1) := by decide +kernel
theorem dX12_pause_2 : decode cX12_pause 2 = .ok (.putfield 177, 3) := by decide +kernel
theorem dX12_pause_5 : decode cX12_pause 5 = .ok (.aload_n 0, 1) := by decide +kernel
theorem dX12_pause_6 : decode cX12_pause 6 = .ok (.iload_n 2, 1) := by decide +kernel
theorem dX12_pause_7 : decode cX12_pause 7 = .ok (.iconst 1, 1) := by decide +kernel
theorem dX12_pause_8 : decode cX12_pause 8 = .ok (.invokevirtual 405, 3) := by decide +kernel
theorem dX12_pause_29 : decode cX12_pause 29 = .ok (.iconst 0, 1) := by decide +kernel
theorem dX12_pause_30 : decode cX12_pause 30 = .ok (.ireturn, 1) := by decide +kernel
theorem dX12_pause_11 : decode cX12_pause 11 = .ok (.ifCond .eq 18, 3) := by decide +kernel
theorem dX12_pause_14 : decode cX12_pause 14 = .ok (.aload_n 0, 1) := by decide +kernel
theorem dX12_pause_15 : decode cX12_pause 15 = .ok (.iload_n 1, 1) := by decide +kernel
theorem dX12_pause_16 : decode cX12_pause 16 = .ok (.iconst 1, 1) := by decide +kernel
theorem dX12_pause_17 : decode cX12_pause 17 = .ok (.bipush 30, 2) := by decide +kernel
theorem dX12_pause_19 : decode cX12_pause 19 = .ok (.invokestatic 392, 3) := by decide +kernel
theorem dX12_pause_22 : decode cX12_pause 22 = .ok (.iconst 2, 1) := by decide +kernel
theorem dX12_pause_23 : decode cX12_pause 23 = .ok (.invokevirtual 328, 3) := by decide +kernel
theorem dX12_pause_26 : decode cX12_pause 26 = .ok (.ifCond .ne 5, 3) := by decide +kernel
theorem dX12_pause_31 : decode cX12_pause 31 = .ok (.iconst (-1), 1) := by decide +kernel
theorem dX12_pause_32 : decode cX12_pause 32 = .ok (.istore_n 3, 1) := by decide +kernel
theorem dX12_pause_33 : decode cX12_pause 33 = .ok (.iconst 0, 1) := by decide +kernel
theorem dX12_pause_34 : decode cX12_pause 34 = .ok (.istore 4, 2) := by decide +kernel
theorem dX12_pause_36 : decode cX12_pause 36 = .ok (.aload_n 0, 1) := by decide +kernel
theorem dX12_pause_37 : decode cX12_pause 37 = .ok (.aload_n 0, 1) := by decide +kernel
theorem dX12_pause_38 : decode cX12_pause 38 = .ok (.getfield 50, 3) := by decide +kernel
theorem dX12_pause_41 : decode cX12_pause 41 = .ok (.aload_n 0, 1) := by decide +kernel
theorem dX12_pause_42 : decode cX12_pause 42 = .ok (.getfield 150, 3) := by decide +kernel
theorem dX12_pause_45 : decode cX12_pause 45 = .ok (.invokevirtual 341, 3) := by decide +kernel
theorem dX12_pause_48 : decode cX12_pause 48 = .ok (.iconst 0, 1) := by decide +kernel
theorem dX12_pause_49 : decode cX12_pause 49 = .ok (.istore 5, 2) := by decide +kernel
theorem dX12_pause_51 : decode cX12_pause 51 = .ok (.iload 5, 2) := by decide +kernel
theorem dX12_pause_53 : decode cX12_pause 53 = .ok (.aload_n 0, 1) := by decide +kernel
theorem dX12_pause_54 : decode cX12_pause 54 = .ok (.getfield 335, 3) := by decide +kernel
theorem dX12_pause_57 : decode cX12_pause 57 = .ok (.if_icmp .ge 125, 3) := by decide +kernel
theorem dX12_pause_182 : decode cX12_pause 182 = .ok (.iload_n 3, 1) := by decide +kernel
theorem dX12_pause_183 : decode cX12_pause 183 = .ok (.iconst (-1), 1) := by decide +kernel
theorem dX12_pause_197 : decode cX12_pause 197 = .ok (.ireturn, 1) := by decide +kernel
theorem dX12_pause_191 : decode cX12_pause 191 = .ok (.iload_n 3, 1) := by decide +kernel
theorem dX12_pause_192 : decode cX12_pause 192 = .ok (.goto 5, 3) := by decide +kernel
theorem dX12_pause_184 : decode cX12_pause 184 = .ok (.if_icmp .eq 7, 3) := by decide +kernel
theorem dX12_pause_187 : decode cX12_pause 187 = .ok (.iload_n 2, 1) := by decide +kernel
theorem dX12_pause_188 : decode cX12_pause 188 = .ok (.ifCond .ne 7, 3) := by decide +kernel
theorem dX12_pause_195 : decode cX12_pause 195 = .ok (.iload 4, 2) := by decide +kernel
theorem dX12_pause_60 : decode cX12_pause 60 = .ok (.iconst 0, 1) := by decide +kernel
theorem dX12_pause_61 : decode cX12_pause 61 = .ok (.istore 6, 2) := by decide +kernel
theorem dX12_pause_63 : decode cX12_pause 63 = .ok (.iload 6, 2) := by decide +kernel
theorem dX12_pause_65 : decode cX12_pause 65 = .ok (.aload_n 0, 1) := by decide +kernel
theorem dX12_pause_66 : decode cX12_pause 66 = .ok (.getfield 335, 3) := by decide +kernel
theorem dX12_pause_69 : decode cX12_pause 69 = .ok (.if_icmp .ge 44, 3) := by decide +kernel
theorem dX12_pause_113 : decode cX12_pause 113 = .ok (.aload_n 0, 1) := by decide +kernel
theorem dX12_pause_114 : decode cX12_pause 114 = .ok (.invokevirtual 399, 3) := by decide +kernel
theorem dX12_pause_117 : decode cX12_pause 117 = .ok (.istore 6, 2) := by decide +kernel
theorem dX12_pause_119 : decode cX12_pause 119 = .ok (.aload_n 0, 1) := by decide +kernel
theorem dX12_pause_120 : decode cX12_pause 120 = .ok (.aload_n 0, 1) := by decide +kernel
theorem dX12_pause_121 : decode cX12_pause 121 = .ok (.getfield 150, 3) := by decide +kernel
theorem dX12_pause_124 : decode cX12_pause 124 = .ok (.aload_n 0, 1) := by decide +kernel
theorem dX12_pause_125 : decode cX12_pause 125 = .ok (.getfield 50, 3) := by decide +kernel
theorem dX12_pause_128 : decode cX12_pause 128 = .ok (.invokevirtual 341, 3) := by decide +kernel
theorem dX12_pause_131 : decode cX12_pause 131 = .ok (.iload_n 3, 1) := by decide +kernel
theorem dX12_pause_132 : decode cX12_pause 132 = .ok (.iconst (-1), 1) := by decide +kernel
theorem dX12_pause_176 : decode cX12_pause 176 = .ok (.iinc 5 1, 3) := by decide +kernel
theorem dX12_pause_179 : decode cX12_pause 179 = .ok (.goto (-128), 3) := by decide +kernel
theorem dX12_pause_164 : decode cX12_pause 164 = .ok (.aload_n 0, 1) := by decide +kernel
theorem dX12_pause_165 : decode cX12_pause 165 = .ok (.getfield 16, 3) := by decide +kernel
theorem dX12_pause_168 : decode cX12_pause 168 = .ok (.iload 5, 2) := by decide +kernel
theorem dX12_pause_170 : decode cX12_pause 170 = .ok (.iaload, 1) := by decide +kernel
theorem dX12_pause_171 : decode cX12_pause 171 = .ok (.istore_n 3, 1) := by decide +kernel
theorem dX12_pause_172 : decode cX12_pause 172 = .ok (.iload 6, 2) := by decide +kernel
theorem dX12_pause_174 : decode cX12_pause 174 = .ok (.istore 4, 2) := by decide +kernel
theorem dX12_pause_133 : decode cX12_pause 133 = .ok (.if_icmp .eq 31, 3) := by decide +kernel
theorem dX12_pause_136 : decode cX12_pause 136 = .ok (.iload 6, 2) := by decide +kernel
theorem dX12_pause_138 : decode cX12_pause 138 = .ok (.iload 4, 2) := by decide +kernel
theorem dX12_pause_140 : decode cX12_pause 140 = .ok (.if_icmp .gt 36, 3) := by decide +kernel
theorem dX12_pause_143 : decode cX12_pause 143 = .ok (.iload 6, 2) := by decide +kernel
theorem dX12_pause_145 : decode cX12_pause 145 = .ok (.iload 4, 2) := by decide +kernel
theorem dX12_pause_147 : decode cX12_pause 147 = .ok (.if_icmp .ne 17, 3) := by decide +kernel
theorem dX12_pause_150 : decode cX12_pause 150 = .ok (.aload_n 0, 1) := by decide +kernel
theorem dX12_pause_151 : decode cX12_pause 151 = .ok (.getfield 16, 3) := by decide +kernel
theorem dX12_pause_154 : decode cX12_pause 154 = .ok (.iload 5, 2) := by decide +kernel
theorem dX12_pause_156 : decode cX12_pause 156 = .ok (.iaload, 1) := by decide +kernel
theorem dX12_pause_157 : decode cX12_pause 157 = .ok (.iload_n 3, 1) := by decide +kernel
theorem dX12_pause_158 : decode cX12_pause 158 = .ok (.if_icmp .lt 6, 3) := by decide +kernel
theorem dX12_pause_161 : decode cX12_pause 161 = .ok (.goto 15, 3) := by decide +kernel
theorem dX12_pause_72 : decode cX12_pause 72 = .ok (.aload_n 0, 1) := by decide +kernel
theorem dX12_pause_73 : decode cX12_pause 73 = .ok (.getfield 50, 3) := by decide +kernel
theorem dX12_pause_76 : decode cX12_pause 76 = .ok (.bipush 12, 2) := by decide +kernel
theorem dX12_pause_78 : decode cX12_pause 78 = .ok (.iload 6, 2) := by decide +kernel
theorem dX12_pause_80 : decode cX12_pause 80 = .ok (.iadd, 1) := by decide +kernel
theorem dX12_pause_81 : decode cX12_pause 81 = .ok (.dup2, 1) := by decide +kernel
theorem dX12_pause_82 : decode cX12_pause 82 = .ok (.iaload, 1) := by decide +kernel
theorem dX12_pause_83 : decode cX12_pause 83 = .ok (.aload_n 0, 1) := by decide +kernel
theorem dX12_pause_84 : decode cX12_pause 84 = .ok (.getfield 16, 3) := by decide +kernel
theorem dX12_pause_87 : decode cX12_pause 87 = .ok (.iload 6, 2) := by decide +kernel
theorem dX12_pause_89 : decode cX12_pause 89 = .ok (.iaload, 1) := by decide +kernel
theorem dX12_pause_90 : decode cX12_pause 90 = .ok (.aload_n 0, 1) := by decide +kernel
theorem dX12_pause_91 : decode cX12_pause 91 = .ok (.getfield 16, 3) := by decide +kernel
theorem dX12_pause_94 : decode cX12_pause 94 = .ok (.iload 5, 2) := by decide +kernel
theorem dX12_pause_96 : decode cX12_pause 96 = .ok (.iaload, 1) := by decide +kernel
theorem dX12_pause_105 : decode cX12_pause 105 = .ok (.iadd, 1) := by decide +kernel
theorem dX12_pause_106 : decode cX12_pause 106 = .ok (.iastore, 1) := by decide +kernel
theorem dX12_pause_107 : decode cX12_pause 107 = .ok (.iinc 6 1, 3) := by decide +kernel
theorem dX12_pause_110 : decode cX12_pause 110 = .ok (.goto (-47), 3) := by decide +kernel
theorem dX12_pause_97 : decode cX12_pause 97 = .ok (.if_icmp .lt 7, 3) := by decide +kernel
theorem dX12_pause_104 : decode cX12_pause 104 = .ok (.iconst 0, 1) := by decide +kernel
theorem dX12_pause_100 : decode cX12_pause 100 = .ok (.iload_n 1, 1) := by decide +kernel
theorem dX12_pause_101 : decode cX12_pause 101 = .ok (.goto 4, 3) := by decide +kernel
theorem dX12_shift_0 : decode cX12_shift 0 = .ok (.aload_n 0, 1) := by decide +kernel
theorem dX12_shift_1 : decode cX12_shift 1 = .ok (.iconst 0, 1) := by decide +kernel
theorem dX12_shift_2 : decode cX12_shift 2 = .ok (.putfield 177, 3) := by decide +kernel
theorem dX12_shift_5 : decode cX12_shift 5 = .ok (.aload_n 0, 1) := by decide +kernel
theorem dX12_shift_6 : decode cX12_shift 6 = .ok (.iload_n 1, 1) := by decide +kernel
theorem dX12_shift_7 : decode cX12_shift 7 = .ok (.invokevirtual 402, 3) := by decide +kernel
theorem dX12_shift_22 : decode cX12_shift 22 = .ok (.iconst 0, 1) := by decide +kernel
theorem dX12_shift_23 : decode cX12_shift 23 = .ok (.ireturn, 1) := by decide +kernel
theorem dX12_shift_10 : decode cX12_shift 10 = .ok (.ifCond .eq 12, 3) := by decide +kernel
theorem dX12_shift_13 : decode cX12_shift 13 = .ok (.aload_n 0, 1) := by decide +kernel
theorem dX12_shift_14 : decode cX12_shift 14 = .ok (.iload_n 2, 1) := by decide +kernel
theorem dX12_shift_15 : decode cX12_shift 15 = .ok (.iconst 1, 1) := by decide +kernel
theorem dX12_shift_16 : decode cX12_shift 16 = .ok (.invokevirtual 405, 3) := by decide +kernel
theorem dX12_shift_19 : decode cX12_shift 19 = .ok (.ifCond .ne 5, 3) := by decide +kernel
theorem dX12_shift_24 : decode cX12_shift 24 = .ok (.aload_n 0, 1) := by decide +kernel
theorem dX12_shift_25 : decode cX12_shift 25 = .ok (.getfield 16, 3) := by decide +kernel
theorem dX12_shift_28 : decode cX12_shift 28 = .ok (.iload_n 1, 1) := by decide +kernel
theorem dX12_shift_29 : decode cX12_shift 29 = .ok (.iaload, 1) := by decide +kernel
theorem dX12_shift_30 : decode cX12_shift 30 = .ok (.istore_n 3, 1) := by decide +kernel
theorem dX12_shift_31 : decode cX12_shift 31 = .ok (.aload_n 0, 1) := by decide +kernel
theorem dX12_shift_32 : decode cX12_shift 32 = .ok (.getfield 20, 3) := by decide +kernel
theorem dX12_shift_35 : decode cX12_shift 35 = .ok (.iload_n 1, 1) := by decide +kernel
theorem dX12_shift_36 : decode cX12_shift 36 = .ok (.iaload, 1) := by decide +kernel
theorem dX12_shift_37 : decode cX12_shift 37 = .ok (.istore 4, 2) := by decide +kernel
theorem dX12_shift_39 : decode cX12_shift 39 = .ok (.iconst 0, 1) := by decide +kernel
theorem dX12_shift_40 : decode cX12_shift 40 = .ok (.istore 5, 2) := by decide +kernel
theorem dX12_shift_42 : decode cX12_shift 42 = .ok (.iconst 0, 1) := by decide +kernel
theorem dX12_shift_43 : decode cX12_shift 43 = .ok (.istore 6, 2) := by decide +kernel
theorem dX12_shift_45 : decode cX12_shift 45 = .ok (.iconst 0, 1) := by decide +kernel
theorem dX12_shift_46 : decode cX12_shift 46 = .ok (.istore 7, 2) := by decide +kernel
theorem dX12_shift_48 : decode cX12_shift 48 = .ok (.bipush (-20), 2) := by decide +kernel
theorem dX12_shift_50 : decode cX12_shift 50 = .ok (.istore 8, 2) := by decide +kernel
theorem dX12_shift_52 : decode cX12_shift 52 = .ok (.iload 8, 2) := by decide +kernel
theorem dX12_shift_54 : decode cX12_shift 54 = .ok (.bipush 20, 2) := by decide +kernel
theorem dX12_shift_56 : decode cX12_shift 56 = .ok (.if_icmp .gt 83, 3) := by decide +kernel
theorem dX12_shift_139 : decode cX12_shift 139 = .ok (.aload_n 0, 1) := by decide +kernel
theorem dX12_shift_140 : decode cX12_shift 140 = .ok (.getfield 16, 3) := by decide +kernel
theorem dX12_shift_143 : decode cX12_shift 143 = .ok (.iload_n 1, 1) := by decide +kernel
theorem dX12_shift_144 : decode cX12_shift 144 = .ok (.iload_n 3, 1) := by decide +kernel
theorem dX12_shift_145 : decode cX12_shift 145 = .ok (.iastore, 1) := by decide +kernel
theorem dX12_shift_146 : decode cX12_shift 146 = .ok (.aload_n 0, 1) := by decide +kernel
theorem dX12_shift_147 : decode cX12_shift 147 = .ok (.getfield 20, 3) := by decide +kernel
theorem dX12_shift_150 : decode cX12_shift 150 = .ok (.iload_n 1, 1) := by decide +kernel
theorem dX12_shift_151 : decode cX12_shift 151 = .ok (.iload 4, 2) := by decide +kernel
theorem dX12_shift_153 : decode cX12_shift 153 = .ok (.iastore, 1) := by decide +kernel
theorem dX12_shift_154 : decode cX12_shift 154 = .ok (.iload_n 2, 1) := by decide +kernel
theorem dX12_shift_165 : decode cX12_shift 165 = .ok (.ireturn, 1) := by decide +kernel
theorem dX12_shift_155 : decode cX12_shift 155 = .ok (.ifCond .ne 8, 3) := by decide +kernel
theorem dX12_shift_163 : decode cX12_shift 163 = .ok (.iload 7, 2) := by decide +kernel
theorem dX12_shift_158 : decode cX12_shift 158 = .ok (.iload 6, 2) := by decide +kernel
theorem dX12_shift_160 : decode cX12_shift 160 = .ok (.goto 5, 3) := by decide +kernel
theorem dX12_shift_59 : decode cX12_shift 59 = .ok (.iload_n 3, 1) := by decide +kernel
theorem dX12_shift_60 : decode cX12_shift 60 = .ok (.iload 8, 2) := by decide +kernel
theorem dX12_shift_62 : decode cX12_shift 62 = .ok (.iadd, 1) := by decide +kernel
theorem dX12_shift_133 : decode cX12_shift 133 = .ok (.iinc 8 1, 3) := by decide +kernel
theorem dX12_shift_136 : decode cX12_shift 136 = .ok (.goto (-84), 3) := by decide +kernel
theorem dX12_shift_63 : decode cX12_shift 63 = .ok (.ifCond .lt 70, 3) := by decide +kernel
theorem dX12_shift_66 : decode cX12_shift 66 = .ok (.iload 4, 2) := by decide +kernel
theorem dX12_shift_68 : decode cX12_shift 68 = .ok (.iload 8, 2) := by decide +kernel
theorem dX12_shift_70 : decode cX12_shift 70 = .ok (.iadd, 1) := by decide +kernel
theorem dX12_shift_71 : decode cX12_shift 71 = .ok (.sipush 999, 3) := by decide +kernel
theorem dX12_shift_74 : decode cX12_shift 74 = .ok (.if_icmp .le 6, 3) := by decide +kernel
theorem dX12_shift_80 : decode cX12_shift 80 = .ok (.aload_n 0, 1) := by decide +kernel
theorem dX12_shift_81 : decode cX12_shift 81 = .ok (.getfield 16, 3) := by decide +kernel
theorem dX12_shift_84 : decode cX12_shift 84 = .ok (.iload_n 1, 1) := by decide +kernel
theorem dX12_shift_85 : decode cX12_shift 85 = .ok (.iload_n 3, 1) := by decide +kernel
theorem dX12_shift_86 : decode cX12_shift 86 = .ok (.iload 8, 2) := by decide +kernel
theorem dX12_shift_88 : decode cX12_shift 88 = .ok (.iadd, 1) := by decide +kernel
theorem dX12_shift_89 : decode cX12_shift 89 = .ok (.iastore, 1) := by decide +kernel
theorem dX12_shift_90 : decode cX12_shift 90 = .ok (.aload_n 0, 1) := by decide +kernel
theorem dX12_shift_91 : decode cX12_shift 91 = .ok (.getfield 20, 3) := by decide +kernel
theorem dX12_shift_94 : decode cX12_shift 94 = .ok (.iload_n 1, 1) := by decide +kernel
theorem dX12_shift_95 : decode cX12_shift 95 = .ok (.iload 4, 2) := by decide +kernel
theorem dX12_shift_97 : decode cX12_shift 97 = .ok (.iload 8, 2) := by decide +kernel
theorem dX12_shift_99 : decode cX12_shift 99 = .ok (.iadd, 1) := by decide +kernel
theorem dX12_shift_100 : decode cX12_shift 100 = .ok (.iastore, 1) := by decide +kernel
theorem dX12_shift_101 : decode cX12_shift 101 = .ok (.aload_n 0, 1) := by decide +kernel
theorem dX12_shift_102 : decode cX12_shift 102 = .ok (.invokevirtual 399, 3) := by decide +kernel
theorem dX12_shift_105 : decode cX12_shift 105 = .ok (.istore 9, 2) := by decide +kernel
theorem dX12_shift_107 : decode cX12_shift 107 = .ok (.iload 5, 2) := by decide +kernel
theorem dX12_shift_122 : decode cX12_shift 122 = .ok (.iconst 1, 1) := by decide +kernel
theorem dX12_shift_123 : decode cX12_shift 123 = .ok (.istore 5, 2) := by decide +kernel
theorem dX12_shift_125 : decode cX12_shift 125 = .ok (.iload 8, 2) := by decide +kernel
theorem dX12_shift_127 : decode cX12_shift 127 = .ok (.istore 6, 2) := by decide +kernel
theorem dX12_shift_129 : decode cX12_shift 129 = .ok (.iload 9, 2) := by decide +kernel
theorem dX12_shift_131 : decode cX12_shift 131 = .ok (.istore 7, 2) := by decide +kernel
theorem dX12_shift_109 : decode cX12_shift 109 = .ok (.ifCond .eq 13, 3) := by decide +kernel
theorem dX12_shift_112 : decode cX12_shift 112 = .ok (.iload 9, 2) := by decide +kernel
theorem dX12_shift_114 : decode cX12_shift 114 = .ok (.iload 7, 2) := by decide +kernel
theorem dX12_shift_116 : decode cX12_shift 116 = .ok (.if_icmp .lt 6, 3) := by decide +kernel
theorem dX12_shift_119 : decode cX12_shift 119 = .ok (.goto 14, 3) := by decide +kernel
theorem dX12_shift_77 : decode cX12_shift 77 = .ok (.goto 56, 3) := by decide +kernel
def fX12_asks_p88 (fu : Nat) (k12 : Int32 × (Nat → Nat → Int32) × (Nat → Nat → Int64) → Option ((Unit) × zS)) (v1 : Int32) (g : Nat → Nat → Int32) (L : Nat → Nat → Int64) : Option ((Unit) × zS) :=
  k12 ((v1 + 1), g, L)
def fX12_asks_p41 (fu : Nat) (k12 : Int32 × (Nat → Nat → Int32) × (Nat → Nat → Int64) → Option ((Unit) × zS)) (v1 : Int32) (g : Nat → Nat → Int32) (L : Nat → Nat → Int64) : Option ((Unit) × zS) :=
  ck v1 12 (
  cb (fX12_within fu (g 7 (Int32.toNatClampNeg v1)) 1 9 g L) (fun x4 g5 L6 =>
  if x4 = 0 then fX12_asks_p88 fu k12 v1 g5 L6
  else if (g5 0 70) = 8 then fX12_asks_p88 fu k12 v1 g5 L6
  else ck (g5 0 70) 8 (sti g5 41 (Int32.toNatClampNeg (g5 0 70)) v1 (fun g10 =>
  sti g10 0 70 ((g10 0 70) + 1) (fun g11 =>
  fX12_asks_p88 fu k12 v1 g11 L6)))))
def fX12_asks_s12 (fu : Nat) (k12 : Int32 × (Nat → Nat → Int32) × (Nat → Nat → Int64) → Option ((Unit) × zS)) (v1 : Int32) (g : Nat → Nat → Int32) (L : Nat → Nat → Int64) : Option ((Unit) × zS) :=
  if (g 0 1) ≤ v1 then some ((), (g, L))
  else ck v1 12 (
  if (g 7 (Int32.toNatClampNeg v1)) = 0 then sti g 0 71 ((g 0 71) ||| ((1 : Int32) <<< ((v1 : Int32) &&& 31) : Int32)) (fun g13 =>
  fX12_asks_p41 fu k12 v1 g13 L)
  else fX12_asks_p41 fu k12 v1 g L)
def fX12_asks_l12 (fu : Nat) (v1 : Int32) (g : Nat → Nat → Int32) (L : Nat → Nat → Int64) : Option ((Unit) × zS) :=
  whileK (fun k v => fX12_asks_s12 fu k v.1 v.2.1 v.2.2) fu (v1, g, L)
def fX12_asks (fu : Nat) (g : Nat → Nat → Int32) (L : Nat → Nat → Int64) : Option ((Unit) × zS) :=
  sti g 0 70 0 (fun g1 =>
  sti g1 0 71 0 (fun g2 =>
  fX12_asks_l12 fu 0 g2 L))
set_option maxHeartbeats 4000000 in
set_option maxRecDepth 100000 in
theorem rX12_asks (l : Launch) (G : kG) (sz : Nat) (a : Nat → Nat) (fu : Nat) (g : Nat → Nat → Int32) (L : Nat → Nat → Int64) (res : Unit) (s9 : zS) (h : fX12_asks fu g L = some (res, s9)) : kM l yX12_asks cX12_asks 2 none { frames := 7, cells := 0, slots := 0, locals := 132 } G [.ref (a 0)] (zw G MS 51 a g L) sz (kQv G (S := Unit) (fun _ => True) (fun _ => zw G MS 51 a s9.1 s9.2)) := by
  refine kM.of (by decide) (Nat.le_of_ble_eq_true rfl) ?_
  intro p e s m below meth c A ls H C hr hlk hnm hP hD hS hl
  have C : kC G p s m c cX12_asks 2 RX12 A := C
  have hx := C.1
  have hb := C.2.1
  have hl : lv_has ls 2 [(0, .ref (a 0))] := hl
  obtain ⟨locs, hlocs⟩ : ∃ q : List Loc, q = [] := ⟨_, rfl⟩
  rw [← hlocs] at hS
  rw [← hlocs]
  unfold fX12_asks at h
  refine lv_aload_n hx hb dX12_asks_0 rfl (lv_at hl 0 rfl) ?_
  refine lv_iconst (v := 0) hx hb dX12_asks_1 (by decide) ?_
  refine y_puti (Or.inl fl_X12_430) ft_X12_70 C hP hD hS (by decide) ms_0 rfl rfl rfl dX12_asks_2 h (fun g1 H locs h hP hD hS => ?_)
  refine lv_aload_n hx hb dX12_asks_5 rfl (lv_at hl 0 rfl) ?_
  refine lv_iconst (v := 0) hx hb dX12_asks_6 (by decide) ?_
  refine y_puti (Or.inl fl_X12_433) ft_X12_71 C hP hD hS (by decide) ms_0 rfl rfl rfl dX12_asks_7 h (fun g2 H locs h hP hD hS => ?_)
  refine lv_iconst (v := 0) hx hb dX12_asks_10 (by decide) ?_
  refine lv_istore_n (lv' := [(1, .int 0), (0, .ref (a 0))]) hx hb dX12_asks_11 rfl hl (by decide) rfl (fun ls hl => ?_)
  have lp12 : ∀ (_ : True), ∀ (n : Nat) (v : Int32 × (Nat → Nat → Int32) × (Nat → Nat → Int64)), whileK (fun k v => fX12_asks_s12 fu k v.1 v.2.1 v.2.2) n v = some (res, s9) → ∀ (H : Heap) (locs : List Loc) (ls : Array Slot), va_P G.1 vwCl (zw G MS 51 a (v.2.1) (v.2.2)) H → va_D A (zw G MS 51 a (v.2.1) (v.2.2)) → va_S A s.heap H locs → lv_has ls 2 [(0, .ref (a 0)), (1, .int (v.1))] → W p l e { frames := 7, cells := 0, slots := 0, locals := 132 } s m [.ref (a 0)].toArray below meth c H locs 0 0 (MQ below ((kQv G (S := Unit) (fun _ => True) (fun _ => zw G MS 51 a s9.1 s9.2)) A) [.ref (a 0)].toArray s 0 0 A) (F0 m 12 ls []) := by
    intro _
    refine while_ind (fun k12 ih12 v h => ?_)
    obtain ⟨v1, g, L⟩ := v
    intro H locs ls hP hD hS hl
    have h : fX12_asks_s12 fu k12 v1 g L = some (res, s9) := h
    have hP : va_P G.1 vwCl (zw G MS 51 a g L) H := hP
    have hD : va_D A (zw G MS 51 a g L) := hD
    have hl : lv_has ls 2 [(0, .ref (a 0)), (1, .int v1)] := hl
    show W p l e { frames := 7, cells := 0, slots := 0, locals := 132 } s m [.ref (a 0)].toArray below meth c H locs 0 0 (MQ below ((kQv G (S := Unit) (fun _ => True) (fun _ => zw G MS 51 a s9.1 s9.2)) A) [.ref (a 0)].toArray s 0 0 A) (F0 m 12 ls [])
    unfold fX12_asks_s12 at h
    refine lv_iload_n hx hb dX12_asks_12 rfl (lv_at hl 1 rfl) ?_
    refine lv_aload_n hx hb dX12_asks_13 rfl (lv_at hl 0 rfl) ?_
    refine x_getv (v := .int (g 0 1)) (Or.inl fl_X12_335) C hP (by decide) ms_0 rfl dX12_asks_14 ?_
    refine lv_icmp_ge (x := v1) (y := (g 0 1)) (tgt := 94) hx hb dX12_asks_17 (by decide) (fun c3 => ?_) (fun c3 => ?_)
    ·
      have h := ite_t c3 h
      exact y_vret C hr hlk hP hD hS h (Nat.le_of_ble_eq_true rfl) (Nat.le_of_ble_eq_true rfl) dX12_asks_94
    ·
      have h := ite_e c3 h
      refine lv_aload_n hx hb dX12_asks_20 rfl (lv_at hl 0 rfl) ?_
      refine x_getr (Or.inl fl_X12_35) C hP (by decide) ms_0 rfl dX12_asks_21 ?_
      refine lv_iload_n hx hb dX12_asks_24 rfl (lv_at hl 1 rfl) ?_
      refine y_ald C hP (by decide) ms_7 dX12_asks_25 h (fun h => ?_)
      have J41 : ∀ (v1 : Int32) (g : Nat → Nat → Int32) (L : Nat → Nat → Int64) (H : Heap) (locs : List Loc) (ls : Array Slot), fX12_asks_p41 fu k12 v1 g L = some (res, s9) → va_P G.1 vwCl (zw G MS 51 a g L) H → va_D A (zw G MS 51 a g L) → va_S A s.heap H locs → lv_has ls 2 [(0, .ref (a 0)), (1, .int v1)] → W p l e { frames := 7, cells := 0, slots := 0, locals := 132 } s m [.ref (a 0)].toArray below meth c H locs 0 0 (MQ below ((kQv G (S := Unit) (fun _ => True) (fun _ => zw G MS 51 a s9.1 s9.2)) A) [.ref (a 0)].toArray s 0 0 A) (F0 m 41 ls []) := by
        intro v1 g L H locs ls h hP hD hS hl
        unfold fX12_asks_p41 at h
        refine lv_aload_n hx hb dX12_asks_41 rfl (lv_at hl 0 rfl) ?_
        refine x_getr (Or.inl fl_X12_35) C hP (by decide) ms_0 rfl dX12_asks_42 ?_
        refine lv_iload_n hx hb dX12_asks_45 rfl (lv_at hl 1 rfl) ?_
        refine y_ald C hP (by decide) ms_7 dX12_asks_46 h (fun h => ?_)
        refine lv_iconst (v := 1) hx hb dX12_asks_47 (by decide) ?_
        refine lv_bipush (v := 9) hx hb dX12_asks_48 (by decide) ?_
        obtain ⟨z_, g5, L6, hf7, h⟩ := cb_some h
        refine x_callSi (rest := []) li_X12_392 C (rX12_within l G H.size a fu g L (g 7 (Int32.toNatClampNeg v1)) 1 9 z_ (g5, L6) hf7) (kR rfl) hP hD hS rfl hl.1 rfl (Nat.le_of_ble_eq_true rfl) dX12_asks_50 (fun x4 u_ H locs e_ hP hD hS => ?_)
        have e_ : x4 = z_ := e_
        subst e_
        have hP : va_P G.1 vwCl (zw G MS 51 a g5 L6) H := hP
        have hD : va_D A (zw G MS 51 a g5 L6) := hD
        have J88 : ∀ (v1 : Int32) (g : Nat → Nat → Int32) (L : Nat → Nat → Int64) (H : Heap) (locs : List Loc) (ls : Array Slot), fX12_asks_p88 fu k12 v1 g L = some (res, s9) → va_P G.1 vwCl (zw G MS 51 a g L) H → va_D A (zw G MS 51 a g L) → va_S A s.heap H locs → lv_has ls 2 [(0, .ref (a 0)), (1, .int v1)] → W p l e { frames := 7, cells := 0, slots := 0, locals := 132 } s m [.ref (a 0)].toArray below meth c H locs 0 0 (MQ below ((kQv G (S := Unit) (fun _ => True) (fun _ => zw G MS 51 a s9.1 s9.2)) A) [.ref (a 0)].toArray s 0 0 A) (F0 m 88 ls []) := by
          intro v1 g L H locs ls h hP hD hS hl
          unfold fX12_asks_p88 at h
          refine lv_iinc (v := (v1 + 1)) (lv' := [(1, .int (v1 + 1)), (0, .ref (a 0))]) hx hb dX12_asks_88 hl (k := 1) rfl rfl (by decide) rfl (fun ls hl => ?_)
          refine lv_goto (tgt := 12) hx hb dX12_asks_91 (by decide) ?_
          exact ih12 ((v1 + 1), g, L) h H locs ls hP hD hS (lv_sub hl [1, 0] rfl)
        refine lv_if_eq (x := x4) (tgt := 88) hx hb dX12_asks_53 (by decide) (fun c8 => ?_) (fun c8 => ?_)
        ·
          have h := ite_t c8 h
          exact J88 v1 g5 L6 H locs ls h hP hD hS (lv_sub hl [0, 1] rfl)
        ·
          have h := ite_e c8 h
          refine lv_aload_n hx hb dX12_asks_56 rfl (lv_at hl 0 rfl) ?_
          refine x_getv (v := .int (g5 0 70)) (Or.inl fl_X12_430) C hP (by decide) ms_0 rfl dX12_asks_57 ?_
          refine lv_bipush (v := 8) hx hb dX12_asks_60 (by decide) ?_
          refine lv_icmp_ne (x := (g5 0 70)) (y := 8) (tgt := 68) hx hb dX12_asks_62 (by decide) (fun c9 => ?_) (fun c9 => ?_)
          ·
            have h := ite_e c9 h
            refine lv_aload_n hx hb dX12_asks_68 rfl (lv_at hl 0 rfl) ?_
            refine x_getr (Or.inl fl_X12_147) C hP (by decide) ms_0 rfl dX12_asks_69 ?_
            refine lv_aload_n hx hb dX12_asks_72 rfl (lv_at hl 0 rfl) ?_
            refine x_getv (v := .int (g5 0 70)) (Or.inl fl_X12_430) C hP (by decide) ms_0 rfl dX12_asks_73 ?_
            refine lv_iload_n hx hb dX12_asks_76 rfl (lv_at hl 1 rfl) ?_
            refine y_ast C hP hD hS (by decide) ms_41 dX12_asks_77 h (fun g10 H locs h hP hD hS => ?_)
            refine lv_aload_n hx hb dX12_asks_78 rfl (lv_at hl 0 rfl) ?_
            refine lv_dup hx hb dX12_asks_79 rfl ?_
            refine x_getv (v := .int (g10 0 70)) (Or.inl fl_X12_430) C hP (by decide) ms_0 rfl dX12_asks_80 ?_
            refine lv_iconst (v := 1) hx hb dX12_asks_83 (by decide) ?_
            refine lv_iadd hx hb dX12_asks_84 ?_
            refine y_puti (Or.inl fl_X12_430) ft_X12_70 C hP hD hS (by decide) ms_0 rfl rfl rfl dX12_asks_85 h (fun g11 H locs h hP hD hS => ?_)
            exact J88 v1 g11 L6 H locs ls h hP hD hS (lv_sub hl [0, 1] rfl)
          ·
            have h := ite_t c9 h
            refine lv_goto (tgt := 88) hx hb dX12_asks_65 (by decide) ?_
            exact J88 v1 g5 L6 H locs ls h hP hD hS (lv_sub hl [0, 1] rfl)
      refine lv_if_ne (x := (g 7 (Int32.toNatClampNeg v1))) (tgt := 41) hx hb dX12_asks_26 (by decide) (fun c12 => ?_) (fun c12 => ?_)
      ·
        have h := ite_e c12 h
        exact J41 v1 g L H locs ls h hP hD hS (lv_sub hl [0, 1] rfl)
      ·
        have h := ite_t c12 h
        refine lv_aload_n hx hb dX12_asks_29 rfl (lv_at hl 0 rfl) ?_
        refine lv_dup hx hb dX12_asks_30 rfl ?_
        refine x_getv (v := .int (g 0 71)) (Or.inl fl_X12_433) C hP (by decide) ms_0 rfl dX12_asks_31 ?_
        refine lv_iconst (v := 1) hx hb dX12_asks_34 (by decide) ?_
        refine lv_iload_n hx hb dX12_asks_35 rfl (lv_at hl 1 rfl) ?_
        refine lv_ishl hx hb dX12_asks_36 ?_
        refine lv_ior hx hb dX12_asks_37 ?_
        refine y_puti (Or.inl fl_X12_433) ft_X12_71 C hP hD hS (by decide) ms_0 rfl rfl rfl dX12_asks_38 h (fun g13 H locs h hP hD hS => ?_)
        exact J41 v1 g13 L H locs ls h hP hD hS (lv_sub hl [0, 1] rfl)
  exact lp12 trivial fu (0, g2, L) h H locs ls hP hD hS (lv_sub hl [1, 0] rfl)
def fX12_tens_s4 (fu : Nat) (k4 : Int64 × Int32 × (Nat → Nat → Int32) × (Nat → Nat → Int64) → Option ((Int64) × zS)) (v1 : Int64) (v3 : Int32) (g : Nat → Nat → Int32) (L : Nat → Nat → Int64) : Option ((Int64) × zS) :=
  if (g 0 70) ≤ v3 then some (v1, (g, L))
  else ltl (v1 * 10) (fun y2 =>
  k4 (y2, (v3 + 1), g, L))
def fX12_tens_l4 (fu : Nat) (v1 : Int64) (v3 : Int32) (g : Nat → Nat → Int32) (L : Nat → Nat → Int64) : Option ((Int64) × zS) :=
  whileK (fun k v => fX12_tens_s4 fu k v.1 v.2.1 v.2.2.1 v.2.2.2) fu (v1, v3, g, L)
def fX12_tens (fu : Nat) (g : Nat → Nat → Int32) (L : Nat → Nat → Int64) : Option ((Int64) × zS) :=
  fX12_tens_l4 fu 1 0 g L
set_option maxHeartbeats 4000000 in
set_option maxRecDepth 100000 in
theorem rX12_tens (l : Launch) (G : kG) (sz : Nat) (a : Nat → Nat) (fu : Nat) (g : Nat → Nat → Int32) (L : Nat → Nat → Int64) (res : Int64) (s9 : zS) (h : fX12_tens fu g L = some (res, s9)) : kM l yX12_tens cX12_tens 4 (some .long) { frames := 6, cells := 0, slots := 0, locals := 110 } G [.ref (a 0)] (zw G MS 51 a g L) sz (kQl G (S := Unit) (fun r' _ => r' = res) (fun _ => zw G MS 51 a s9.1 s9.2)) := by
  refine kM.of (by decide) (Nat.le_of_ble_eq_true rfl) ?_
  intro p e s m below meth c A ls H C hr hlk hnm hP hD hS hl
  have C : kC G p s m c cX12_tens 4 RX12 A := C
  have hx := C.1
  have hb := C.2.1
  have hl : lv_has ls 4 [(0, .ref (a 0))] := hl
  obtain ⟨locs, hlocs⟩ : ∃ q : List Loc, q = [] := ⟨_, rfl⟩
  rw [← hlocs] at hS
  rw [← hlocs]
  unfold fX12_tens at h
  refine lv_lconst (v := 1) hx hb dX12_tens_0 (by decide) ?_
  refine lv_lstore_n (lv' := [(1, .long 1), (0, .ref (a 0))]) hx hb dX12_tens_1 rfl hl (by decide) rfl (fun ls hl => ?_)
  refine lv_iconst (v := 0) hx hb dX12_tens_2 (by decide) ?_
  refine lv_istore_n (lv' := [(3, .int 0), (1, .long 1), (0, .ref (a 0))]) hx hb dX12_tens_3 rfl hl (by decide) rfl (fun ls hl => ?_)
  have lp4 : ∀ (_ : True), ∀ (n : Nat) (v : Int64 × Int32 × (Nat → Nat → Int32) × (Nat → Nat → Int64)), whileK (fun k v => fX12_tens_s4 fu k v.1 v.2.1 v.2.2.1 v.2.2.2) n v = some (res, s9) → ∀ (H : Heap) (locs : List Loc) (ls : Array Slot), va_P G.1 vwCl (zw G MS 51 a (v.2.2.1) (v.2.2.2)) H → va_D A (zw G MS 51 a (v.2.2.1) (v.2.2.2)) → va_S A s.heap H locs → lv_has ls 4 [(0, .ref (a 0)), (1, .long (v.1)), (3, .int (v.2.1))] → W p l e { frames := 6, cells := 0, slots := 0, locals := 110 } s m [.ref (a 0)].toArray below meth c H locs 0 0 (MQ below ((kQl G (S := Unit) (fun r' _ => r' = res) (fun _ => zw G MS 51 a s9.1 s9.2)) A) [.ref (a 0)].toArray s 0 0 A) (F0 m 4 ls []) := by
    intro _
    refine while_ind (fun k4 ih4 v h => ?_)
    obtain ⟨v1, v3, g, L⟩ := v
    intro H locs ls hP hD hS hl
    have h : fX12_tens_s4 fu k4 v1 v3 g L = some (res, s9) := h
    have hP : va_P G.1 vwCl (zw G MS 51 a g L) H := hP
    have hD : va_D A (zw G MS 51 a g L) := hD
    have hl : lv_has ls 4 [(0, .ref (a 0)), (1, .long v1), (3, .int v3)] := hl
    show W p l e { frames := 6, cells := 0, slots := 0, locals := 110 } s m [.ref (a 0)].toArray below meth c H locs 0 0 (MQ below ((kQl G (S := Unit) (fun r' _ => r' = res) (fun _ => zw G MS 51 a s9.1 s9.2)) A) [.ref (a 0)].toArray s 0 0 A) (F0 m 4 ls [])
    unfold fX12_tens_s4 at h
    refine lv_iload_n hx hb dX12_tens_4 rfl (lv_at hl 2 rfl) ?_
    refine lv_aload_n hx hb dX12_tens_5 rfl (lv_at hl 0 rfl) ?_
    refine x_getv (v := .int (g 0 70)) (Or.inl fl_X12_430) C hP (by decide) ms_0 rfl dX12_tens_6 ?_
    refine lv_icmp_ge (x := v3) (y := (g 0 70)) (tgt := 24) hx hb dX12_tens_9 (by decide) (fun c1 => ?_) (fun c1 => ?_)
    ·
      have h := ite_t c1 h
      refine lv_lload_n hx hb dX12_tens_24 rfl (lv_at hl 1 rfl) ?_
      exact y_lret C hr hlk hP hD hS h (Nat.le_of_ble_eq_true rfl) (Nat.le_of_ble_eq_true rfl) dX12_tens_25
    ·
      have h := ite_e c1 h
      refine lv_lload_n hx hb dX12_tens_12 rfl (lv_at hl 1 rfl) ?_
      refine lv_ldc2 (v := 10) hx hb C.2.2.2.1 (C.2.2.2.2.1.w tw_1966 rfl) dX12_tens_13 ?_
      refine lv_lmul hx hb dX12_tens_16 ?_
      refine y_letL h (fun y2 h => ?_)
      refine lv_lstore_n (lv' := [(1, .long y2), (0, .ref (a 0)), (3, .int v3)]) hx hb dX12_tens_17 rfl hl (by decide) rfl (fun ls hl => ?_)
      refine lv_iinc (v := (v3 + 1)) (lv' := [(3, .int (v3 + 1)), (1, .long y2), (0, .ref (a 0))]) hx hb dX12_tens_18 hl (k := 2) rfl rfl (by decide) rfl (fun ls hl => ?_)
      refine lv_goto (tgt := 4) hx hb dX12_tens_21 (by decide) ?_
      exact ih4 (y2, (v3 + 1), g, L) h H locs ls hP hD hS (lv_sub hl [2, 1, 0] rfl)
  exact lp4 trivial fu (1, 0, g, L) h H locs ls hP hD hS (lv_sub hl [2, 1, 0] rfl)
def fX12_weighs_p169 (fu : Nat) (k5 : Int64 × Int32 × (Nat → Nat → Int32) × (Nat → Nat → Int64) → Option ((Int64) × zS)) (v1 : Int32) (v2 : Int32) (v5 : Int32) (t0 : Int64) (t1 : Int64) (g : Nat → Nat → Int32) (L : Nat → Nat → Int64) : Option ((Int64) × zS) :=
  ltl (t1 + t0) (fun y9 =>
  k5 (y9, (v5 + 1), g, L))
def fX12_weighs_p122 (fu : Nat) (k5 : Int64 × Int32 × (Nat → Nat → Int32) × (Nat → Nat → Int64) → Option ((Int64) × zS)) (k30 : Int64 × Int32 × (Nat → Nat → Int32) × (Nat → Nat → Int64) → Option ((Int64) × zS)) (v1 : Int32) (v2 : Int32) (v3 : Int64) (v5 : Int32) (v6 : Int64) (v8 : Int32) (t0 : Int32) (t1 : Int32) (g : Nat → Nat → Int32) (L : Nat → Nat → Int64) : Option ((Int64) × zS) :=
  sti g 0 60 (t1 ||| t0) (fun g21 =>
  k30 (v6, (v8 + 1), g21, L))
def fX12_weighs_p96 (fu : Nat) (k5 : Int64 × Int32 × (Nat → Nat → Int32) × (Nat → Nat → Int64) → Option ((Int64) × zS)) (k30 : Int64 × Int32 × (Nat → Nat → Int32) × (Nat → Nat → Int64) → Option ((Int64) × zS)) (v1 : Int32) (v2 : Int32) (v3 : Int64) (v5 : Int32) (v8 : Int32) (v9 : Int32) (t0 : Int64) (t1 : Int64) (g : Nat → Nat → Int32) (L : Nat → Nat → Int64) : Option ((Int64) × zS) :=
  ltl (t1 * t0) (fun y20 =>
  if v9 = 0 then ck v8 8 (
  fX12_weighs_p122 fu k5 k30 v1 v2 v3 v5 y20 v8 ((1 : Int32) <<< (((g 41 (Int32.toNatClampNeg v8)) : Int32) &&& 31) : Int32) (g 0 60) g L)
  else fX12_weighs_p122 fu k5 k30 v1 v2 v3 v5 y20 v8 0 (g 0 60) g L)
def fX12_weighs_p55 (fu : Nat) (k5 : Int64 × Int32 × (Nat → Nat → Int32) × (Nat → Nat → Int64) → Option ((Int64) × zS)) (k30 : Int64 × Int32 × (Nat → Nat → Int32) × (Nat → Nat → Int64) → Option ((Int64) × zS)) (v1 : Int32) (v2 : Int32) (v3 : Int64) (v5 : Int32) (v6 : Int64) (v8 : Int32) (t0 : Int32) (g : Nat → Nat → Int32) (L : Nat → Nat → Int64) : Option ((Int64) × zS) :=
  if t0 = 0 then ck v8 8 (
  ck (g 41 (Int32.toNatClampNeg v8)) 12 (
  fX12_weighs_p96 fu k5 k30 v1 v2 v3 v5 v8 t0 (Int32.toInt64 (10 - (g 7 (Int32.toNatClampNeg (g 41 (Int32.toNatClampNeg v8)))))) v6 g L))
  else ck v8 8 (
  ck (g 41 (Int32.toNatClampNeg v8)) 12 (
  fX12_weighs_p96 fu k5 k30 v1 v2 v3 v5 v8 t0 (Int32.toInt64 (g 7 (Int32.toNatClampNeg (g 41 (Int32.toNatClampNeg v8))))) v6 g L))
def fX12_weighs_s30 (fu : Nat) (k5 : Int64 × Int32 × (Nat → Nat → Int32) × (Nat → Nat → Int64) → Option ((Int64) × zS)) (v1 : Int32) (v2 : Int32) (v3 : Int64) (v5 : Int32) (k30 : Int64 × Int32 × (Nat → Nat → Int32) × (Nat → Nat → Int64) → Option ((Int64) × zS)) (v6 : Int64) (v8 : Int32) (g : Nat → Nat → Int32) (L : Nat → Nat → Int64) : Option ((Int64) × zS) :=
  if (g 0 70) ≤ v8 then cb (fX12_works0 fu g L) (fun x5 g6 L7 =>
  if (v2 : Int32) = (-1) then cb (fX12_late fu v1 g6 L7) (fun x16 g17 L18 =>
  fX12_weighs_p169 fu k5 v1 v2 v5 (v6 * (Int32.toInt64 x16)) v3 g17 L18)
  else cb (fX12_late fu v1 g6 L7) (fun x11 g12 L13 =>
  if (x11 : Int32) ≤ v2 then fX12_weighs_p169 fu k5 v1 v2 v5 0 v3 g12 L13
  else fX12_weighs_p169 fu k5 v1 v2 v5 v6 v3 g12 L13))
  else if (((v5 : Int32) >>> ((v8 : Int32) &&& 31) : Int32) &&& 1) = 1 then fX12_weighs_p55 fu k5 k30 v1 v2 v3 v5 v6 v8 1 g L
  else fX12_weighs_p55 fu k5 k30 v1 v2 v3 v5 v6 v8 0 g L
def fX12_weighs_l30 (fu : Nat) (k5 : Int64 × Int32 × (Nat → Nat → Int32) × (Nat → Nat → Int64) → Option ((Int64) × zS)) (v1 : Int32) (v2 : Int32) (v3 : Int64) (v5 : Int32) (v6 : Int64) (v8 : Int32) (g : Nat → Nat → Int32) (L : Nat → Nat → Int64) : Option ((Int64) × zS) :=
  whileK (fun k v => fX12_weighs_s30 fu k5 v1 v2 v3 v5 k v.1 v.2.1 v.2.2.1 v.2.2.2) fu (v6, v8, g, L)
def fX12_weighs_s5 (fu : Nat) (v1 : Int32) (v2 : Int32) (k5 : Int64 × Int32 × (Nat → Nat → Int32) × (Nat → Nat → Int64) → Option ((Int64) × zS)) (v3 : Int64) (v5 : Int32) (g : Nat → Nat → Int32) (L : Nat → Nat → Int64) : Option ((Int64) × zS) :=
  if ((1 : Int32) <<< (((g 0 70) : Int32) &&& 31) : Int32) ≤ v5 then sti g 0 60 0 (fun g2 =>
  some (v3, (g2, L)))
  else sti g 0 60 (g 0 71) (fun g3 =>
  fX12_weighs_l30 fu k5 v1 v2 v3 v5 1 0 g3 L)
def fX12_weighs_l5 (fu : Nat) (v1 : Int32) (v2 : Int32) (v3 : Int64) (v5 : Int32) (g : Nat → Nat → Int32) (L : Nat → Nat → Int64) : Option ((Int64) × zS) :=
  whileK (fun k v => fX12_weighs_s5 fu v1 v2 k v.1 v.2.1 v.2.2.1 v.2.2.2) fu (v3, v5, g, L)
def fX12_weighs (fu : Nat) (p1 : Int32) (p2 : Int32) (g : Nat → Nat → Int32) (L : Nat → Nat → Int64) : Option ((Int64) × zS) :=
  fX12_weighs_l5 fu p1 p2 0 0 g L
set_option maxHeartbeats 4000000 in
set_option maxRecDepth 100000 in
theorem rX12_weighs (l : Launch) (G : kG) (sz : Nat) (a : Nat → Nat) (fu : Nat) (g : Nat → Nat → Int32) (L : Nat → Nat → Int64) (p1 : Int32) (p2 : Int32) (res : Int64) (s9 : zS) (h : fX12_weighs fu p1 p2 g L = some (res, s9)) : kM l yX12_weighs cX12_weighs 10 (some .long) { frames := 11, cells := 0, slots := 0, locals := 228 } G [.ref (a 0), .int p1, .int p2] (zw G MS 51 a g L) sz (kQl G (S := Unit) (fun r' _ => r' = res) (fun _ => zw G MS 51 a s9.1 s9.2)) := by
  refine kM.of (by decide) (Nat.le_of_ble_eq_true rfl) ?_
  intro p e s m below meth c A ls H C hr hlk hnm hP hD hS hl
  have C : kC G p s m c cX12_weighs 10 RX12 A := C
  have hx := C.1
  have hb := C.2.1
  have hl : lv_has ls 10 [(0, .ref (a 0)), (1, .int p1), (2, .int p2)] := hl
  obtain ⟨locs, hlocs⟩ : ∃ q : List Loc, q = [] := ⟨_, rfl⟩
  rw [← hlocs] at hS
  rw [← hlocs]
  unfold fX12_weighs at h
  refine lv_lconst (v := 0) hx hb dX12_weighs_0 (by decide) ?_
  refine lv_lstore_n (lv' := [(3, .long 0), (0, .ref (a 0)), (1, .int p1), (2, .int p2)]) hx hb dX12_weighs_1 rfl hl (by decide) rfl (fun ls hl => ?_)
  refine lv_iconst (v := 0) hx hb dX12_weighs_2 (by decide) ?_
  refine lv_istore (lv' := [(5, .int 0), (3, .long 0), (0, .ref (a 0)), (1, .int p1), (2, .int p2)]) hx hb dX12_weighs_3 hl (by decide) rfl (fun ls hl => ?_)
  have lp5 : ∀ (v1 : Int32) (v2 : Int32), ∀ (n : Nat) (v : Int64 × Int32 × (Nat → Nat → Int32) × (Nat → Nat → Int64)), whileK (fun k v => fX12_weighs_s5 fu v1 v2 k v.1 v.2.1 v.2.2.1 v.2.2.2) n v = some (res, s9) → ∀ (H : Heap) (locs : List Loc) (ls : Array Slot), va_P G.1 vwCl (zw G MS 51 a (v.2.2.1) (v.2.2.2)) H → va_D A (zw G MS 51 a (v.2.2.1) (v.2.2.2)) → va_S A s.heap H locs → lv_has ls 10 [(0, .ref (a 0)), (1, .int v1), (2, .int v2), (3, .long (v.1)), (5, .int (v.2.1))] → W p l e { frames := 11, cells := 0, slots := 0, locals := 228 } s m [.ref (a 0), .int p1, .int p2].toArray below meth c H locs 0 0 (MQ below ((kQl G (S := Unit) (fun r' _ => r' = res) (fun _ => zw G MS 51 a s9.1 s9.2)) A) [.ref (a 0), .int p1, .int p2].toArray s 0 0 A) (F0 m 5 ls []) := by
    intro v1 v2
    refine while_ind (fun k5 ih5 v h => ?_)
    obtain ⟨v3, v5, g, L⟩ := v
    intro H locs ls hP hD hS hl
    have h : fX12_weighs_s5 fu v1 v2 k5 v3 v5 g L = some (res, s9) := h
    have hP : va_P G.1 vwCl (zw G MS 51 a g L) H := hP
    have hD : va_D A (zw G MS 51 a g L) := hD
    have hl : lv_has ls 10 [(0, .ref (a 0)), (1, .int v1), (2, .int v2), (3, .long v3), (5, .int v5)] := hl
    show W p l e { frames := 11, cells := 0, slots := 0, locals := 228 } s m [.ref (a 0), .int p1, .int p2].toArray below meth c H locs 0 0 (MQ below ((kQl G (S := Unit) (fun r' _ => r' = res) (fun _ => zw G MS 51 a s9.1 s9.2)) A) [.ref (a 0), .int p1, .int p2].toArray s 0 0 A) (F0 m 5 ls [])
    unfold fX12_weighs_s5 at h
    refine lv_iload hx hb dX12_weighs_5 (lv_at hl 4 rfl) ?_
    refine lv_iconst (v := 1) hx hb dX12_weighs_7 (by decide) ?_
    refine lv_aload_n hx hb dX12_weighs_8 rfl (lv_at hl 0 rfl) ?_
    refine x_getv (v := .int (g 0 70)) (Or.inl fl_X12_430) C hP (by decide) ms_0 rfl dX12_weighs_9 ?_
    refine lv_ishl hx hb dX12_weighs_12 ?_
    refine lv_icmp_ge (x := v5) (y := ((1 : Int32) <<< (((g 0 70) : Int32) &&& 31) : Int32)) (tgt := 177) hx hb dX12_weighs_13 (by decide) (fun c1 => ?_) (fun c1 => ?_)
    ·
      have h := ite_t c1 h
      refine lv_aload_n hx hb dX12_weighs_177 rfl (lv_at hl 0 rfl) ?_
      refine lv_iconst (v := 0) hx hb dX12_weighs_178 (by decide) ?_
      refine y_puti (Or.inl fl_X12_374) ft_X12_60 C hP hD hS (by decide) ms_0 rfl rfl rfl dX12_weighs_179 h (fun g2 H locs h hP hD hS => ?_)
      refine lv_lload_n hx hb dX12_weighs_182 rfl (lv_at hl 3 rfl) ?_
      exact y_lret C hr hlk hP hD hS h (Nat.le_of_ble_eq_true rfl) (Nat.le_of_ble_eq_true rfl) dX12_weighs_183
    ·
      have h := ite_e c1 h
      refine lv_lconst (v := 1) hx hb dX12_weighs_16 (by decide) ?_
      refine lv_lstore (lv' := [(6, .long 1), (0, .ref (a 0)), (1, .int v1), (2, .int v2), (3, .long v3), (5, .int v5)]) hx hb dX12_weighs_17 hl (by decide) rfl (fun ls hl => ?_)
      refine lv_aload_n hx hb dX12_weighs_19 rfl (lv_at hl 1 rfl) ?_
      refine lv_aload_n hx hb dX12_weighs_20 rfl (lv_at hl 1 rfl) ?_
      refine x_getv (v := .int (g 0 71)) (Or.inl fl_X12_433) C hP (by decide) ms_0 rfl dX12_weighs_21 ?_
      refine y_puti (Or.inl fl_X12_374) ft_X12_60 C hP hD hS (by decide) ms_0 rfl rfl rfl dX12_weighs_24 h (fun g3 H locs h hP hD hS => ?_)
      refine lv_iconst (v := 0) hx hb dX12_weighs_27 (by decide) ?_
      refine lv_istore (lv' := [(8, .int 0), (6, .long 1), (0, .ref (a 0)), (1, .int v1), (2, .int v2), (3, .long v3), (5, .int v5)]) hx hb dX12_weighs_28 hl (by decide) rfl (fun ls hl => ?_)
      have lp30 : ∀ (v3 : Int64) (v5 : Int32), ∀ (n : Nat) (v : Int64 × Int32 × (Nat → Nat → Int32) × (Nat → Nat → Int64)), whileK (fun k v => fX12_weighs_s30 fu k5 v1 v2 v3 v5 k v.1 v.2.1 v.2.2.1 v.2.2.2) n v = some (res, s9) → ∀ (H : Heap) (locs : List Loc) (ls : Array Slot), va_P G.1 vwCl (zw G MS 51 a (v.2.2.1) (v.2.2.2)) H → va_D A (zw G MS 51 a (v.2.2.1) (v.2.2.2)) → va_S A s.heap H locs → lv_has ls 10 [(0, .ref (a 0)), (1, .int v1), (2, .int v2), (3, .long v3), (5, .int v5), (6, .long (v.1)), (8, .int (v.2.1))] → W p l e { frames := 11, cells := 0, slots := 0, locals := 228 } s m [.ref (a 0), .int p1, .int p2].toArray below meth c H locs 0 0 (MQ below ((kQl G (S := Unit) (fun r' _ => r' = res) (fun _ => zw G MS 51 a s9.1 s9.2)) A) [.ref (a 0), .int p1, .int p2].toArray s 0 0 A) (F0 m 30 ls []) := by
        intro v3 v5
        refine while_ind (fun k30 ih30 v h => ?_)
        obtain ⟨v6, v8, g, L⟩ := v
        intro H locs ls hP hD hS hl
        have h : fX12_weighs_s30 fu k5 v1 v2 v3 v5 k30 v6 v8 g L = some (res, s9) := h
        have hP : va_P G.1 vwCl (zw G MS 51 a g L) H := hP
        have hD : va_D A (zw G MS 51 a g L) := hD
        have hl : lv_has ls 10 [(0, .ref (a 0)), (1, .int v1), (2, .int v2), (3, .long v3), (5, .int v5), (6, .long v6), (8, .int v8)] := hl
        show W p l e { frames := 11, cells := 0, slots := 0, locals := 228 } s m [.ref (a 0), .int p1, .int p2].toArray below meth c H locs 0 0 (MQ below ((kQl G (S := Unit) (fun r' _ => r' = res) (fun _ => zw G MS 51 a s9.1 s9.2)) A) [.ref (a 0), .int p1, .int p2].toArray s 0 0 A) (F0 m 30 ls [])
        unfold fX12_weighs_s30 at h
        refine lv_iload hx hb dX12_weighs_30 (lv_at hl 6 rfl) ?_
        refine lv_aload_n hx hb dX12_weighs_32 rfl (lv_at hl 0 rfl) ?_
        refine x_getv (v := .int (g 0 70)) (Or.inl fl_X12_430) C hP (by decide) ms_0 rfl dX12_weighs_33 ?_
        refine lv_icmp_ge (x := v8) (y := (g 0 70)) (tgt := 132) hx hb dX12_weighs_36 (by decide) (fun c4 => ?_) (fun c4 => ?_)
        ·
          have h := ite_t c4 h
          refine lv_aload_n hx hb dX12_weighs_132 rfl (lv_at hl 0 rfl) ?_
          obtain ⟨z_, g6, L7, hf8, h⟩ := cb_some h
          refine x_callVv (rest := []) li_X12_386 C (rX12_works0 l G H.size a fu g L z_ (g6, L7) hf8) (kR rfl) hP hD hS 0 12 rfl (zat (by decide) ms_0) rfl hl.1 rfl (Nat.le_of_ble_eq_true rfl) dX12_weighs_133 (fun u_ H locs e_ hP hD hS => ?_)
          have hP : va_P G.1 vwCl (zw G MS 51 a g6 L7) H := hP
          have hD : va_D A (zw G MS 51 a g6 L7) := hD
          refine lv_lload_n hx hb dX12_weighs_136 rfl (lv_at hl 3 rfl) ?_
          refine lv_iload_n hx hb dX12_weighs_137 rfl (lv_at hl 2 rfl) ?_
          refine lv_iconst (v := -1) hx hb dX12_weighs_138 (by decide) ?_
          have J169 : ∀ (v5 : Int32) (t0 : Int64) (t1 : Int64) (g : Nat → Nat → Int32) (L : Nat → Nat → Int64) (H : Heap) (locs : List Loc) (ls : Array Slot), fX12_weighs_p169 fu k5 v1 v2 v5 t0 t1 g L = some (res, s9) → va_P G.1 vwCl (zw G MS 51 a g L) H → va_D A (zw G MS 51 a g L) → va_S A s.heap H locs → lv_has ls 10 [(0, .ref (a 0)), (1, .int v1), (2, .int v2), (5, .int v5)] → W p l e { frames := 11, cells := 0, slots := 0, locals := 228 } s m [.ref (a 0), .int p1, .int p2].toArray below meth c H locs 0 0 (MQ below ((kQl G (S := Unit) (fun r' _ => r' = res) (fun _ => zw G MS 51 a s9.1 s9.2)) A) [.ref (a 0), .int p1, .int p2].toArray s 0 0 A) (F0 m 169 ls [.long t0, .long t1]) := by
            intro v5 t0 t1 g L H locs ls h hP hD hS hl
            unfold fX12_weighs_p169 at h
            refine lv_ladd hx hb dX12_weighs_169 ?_
            refine y_letL h (fun y9 h => ?_)
            refine lv_lstore_n (lv' := [(3, .long y9), (0, .ref (a 0)), (1, .int v1), (2, .int v2), (5, .int v5)]) hx hb dX12_weighs_170 rfl hl (by decide) rfl (fun ls hl => ?_)
            refine lv_iinc (v := (v5 + 1)) (lv' := [(5, .int (v5 + 1)), (3, .long y9), (0, .ref (a 0)), (1, .int v1), (2, .int v2)]) hx hb dX12_weighs_171 hl (k := 4) rfl rfl (by decide) rfl (fun ls hl => ?_)
            refine lv_goto (tgt := 5) hx hb dX12_weighs_174 (by decide) ?_
            exact ih5 (y9, (v5 + 1), g, L) h H locs ls hP hD hS (lv_sub hl [2, 3, 4, 1, 0] rfl)
          refine lv_icmp_ne (x := v2) (y := (-1)) (tgt := 154) hx hb dX12_weighs_139 (by decide) (fun c10 => ?_) (fun c10 => ?_)
          ·
            have h := ite_e c10 h
            refine lv_aload_n hx hb dX12_weighs_154 rfl (lv_at hl 0 rfl) ?_
            refine lv_iload_n hx hb dX12_weighs_155 rfl (lv_at hl 1 rfl) ?_
            obtain ⟨z_, g12, L13, hf14, h⟩ := cb_some h
            refine x_callVi (rest := [.long v3]) li_X12_389 C (rX12_late l G H.size a fu g6 L7 v1 z_ (g12, L13) hf14) (kR rfl) hP hD hS 0 12 rfl (zat (by decide) ms_0) rfl hl.1 rfl (Nat.le_of_ble_eq_true rfl) dX12_weighs_156 (fun x11 u_ H locs e_ hP hD hS => ?_)
            have e_ : x11 = z_ := e_
            subst e_
            have hP : va_P G.1 vwCl (zw G MS 51 a g12 L13) H := hP
            have hD : va_D A (zw G MS 51 a g12 L13) := hD
            refine lv_iload_n hx hb dX12_weighs_159 rfl (lv_at hl 2 rfl) ?_
            refine lv_icmp_le (x := x11) (y := v2) (tgt := 168) hx hb dX12_weighs_160 (by decide) (fun c15 => ?_) (fun c15 => ?_)
            ·
              have h := ite_t c15 h
              refine lv_lconst (v := 0) hx hb dX12_weighs_168 (by decide) ?_
              exact J169 v5 0 v3 g12 L13 H locs ls h hP hD hS (lv_sub hl [0, 1, 2, 4] rfl)
            ·
              have h := ite_e c15 h
              refine lv_lload hx hb dX12_weighs_163 (lv_at hl 5 rfl) ?_
              refine lv_goto (tgt := 169) hx hb dX12_weighs_165 (by decide) ?_
              exact J169 v5 v6 v3 g12 L13 H locs ls h hP hD hS (lv_sub hl [0, 1, 2, 4] rfl)
          ·
            have h := ite_t c10 h
            refine lv_lload hx hb dX12_weighs_142 (lv_at hl 5 rfl) ?_
            refine lv_aload_n hx hb dX12_weighs_144 rfl (lv_at hl 0 rfl) ?_
            refine lv_iload_n hx hb dX12_weighs_145 rfl (lv_at hl 1 rfl) ?_
            obtain ⟨z_, g17, L18, hf19, h⟩ := cb_some h
            refine x_callVi (rest := [.long v6, .long v3]) li_X12_389 C (rX12_late l G H.size a fu g6 L7 v1 z_ (g17, L18) hf19) (kR rfl) hP hD hS 0 12 rfl (zat (by decide) ms_0) rfl hl.1 rfl (Nat.le_of_ble_eq_true rfl) dX12_weighs_146 (fun x16 u_ H locs e_ hP hD hS => ?_)
            have e_ : x16 = z_ := e_
            subst e_
            have hP : va_P G.1 vwCl (zw G MS 51 a g17 L18) H := hP
            have hD : va_D A (zw G MS 51 a g17 L18) := hD
            refine lv_i2l hx hb dX12_weighs_149 rfl ?_
            refine lv_lmul hx hb dX12_weighs_150 ?_
            refine lv_goto (tgt := 169) hx hb dX12_weighs_151 (by decide) ?_
            exact J169 v5 (v6 * (Int32.toInt64 x16)) v3 g17 L18 H locs ls h hP hD hS (lv_sub hl [0, 1, 2, 4] rfl)
        ·
          have h := ite_e c4 h
          refine lv_iload hx hb dX12_weighs_39 (lv_at hl 4 rfl) ?_
          refine lv_iload hx hb dX12_weighs_41 (lv_at hl 6 rfl) ?_
          refine lv_ishr hx hb dX12_weighs_43 ?_
          refine lv_iconst (v := 1) hx hb dX12_weighs_44 (by decide) ?_
          refine lv_iand hx hb dX12_weighs_45 ?_
          refine lv_iconst (v := 1) hx hb dX12_weighs_46 (by decide) ?_
          have J55 : ∀ (v6 : Int64) (v8 : Int32) (t0 : Int32) (g : Nat → Nat → Int32) (L : Nat → Nat → Int64) (H : Heap) (locs : List Loc) (ls : Array Slot), fX12_weighs_p55 fu k5 k30 v1 v2 v3 v5 v6 v8 t0 g L = some (res, s9) → va_P G.1 vwCl (zw G MS 51 a g L) H → va_D A (zw G MS 51 a g L) → va_S A s.heap H locs → lv_has ls 10 [(0, .ref (a 0)), (1, .int v1), (2, .int v2), (3, .long v3), (5, .int v5), (6, .long v6), (8, .int v8)] → W p l e { frames := 11, cells := 0, slots := 0, locals := 228 } s m [.ref (a 0), .int p1, .int p2].toArray below meth c H locs 0 0 (MQ below ((kQl G (S := Unit) (fun r' _ => r' = res) (fun _ => zw G MS 51 a s9.1 s9.2)) A) [.ref (a 0), .int p1, .int p2].toArray s 0 0 A) (F0 m 55 ls [.int t0]) := by
            intro v6 v8 t0 g L H locs ls h hP hD hS hl
            unfold fX12_weighs_p55 at h
            refine lv_istore (lv' := [(9, .int t0), (0, .ref (a 0)), (1, .int v1), (2, .int v2), (3, .long v3), (5, .int v5), (6, .long v6), (8, .int v8)]) hx hb dX12_weighs_55 hl (by decide) rfl (fun ls hl => ?_)
            refine lv_lload hx hb dX12_weighs_57 (lv_at hl 6 rfl) ?_
            refine lv_iload hx hb dX12_weighs_59 (lv_at hl 0 rfl) ?_
            have J96 : ∀ (v8 : Int32) (v9 : Int32) (t0 : Int64) (t1 : Int64) (g : Nat → Nat → Int32) (L : Nat → Nat → Int64) (H : Heap) (locs : List Loc) (ls : Array Slot), fX12_weighs_p96 fu k5 k30 v1 v2 v3 v5 v8 v9 t0 t1 g L = some (res, s9) → va_P G.1 vwCl (zw G MS 51 a g L) H → va_D A (zw G MS 51 a g L) → va_S A s.heap H locs → lv_has ls 10 [(0, .ref (a 0)), (1, .int v1), (2, .int v2), (3, .long v3), (5, .int v5), (8, .int v8), (9, .int v9)] → W p l e { frames := 11, cells := 0, slots := 0, locals := 228 } s m [.ref (a 0), .int p1, .int p2].toArray below meth c H locs 0 0 (MQ below ((kQl G (S := Unit) (fun r' _ => r' = res) (fun _ => zw G MS 51 a s9.1 s9.2)) A) [.ref (a 0), .int p1, .int p2].toArray s 0 0 A) (F0 m 96 ls [.long t0, .long t1]) := by
              intro v8 v9 t0 t1 g L H locs ls h hP hD hS hl
              unfold fX12_weighs_p96 at h
              refine lv_lmul hx hb dX12_weighs_96 ?_
              refine y_letL h (fun y20 h => ?_)
              refine lv_lstore (lv' := [(6, .long y20), (0, .ref (a 0)), (1, .int v1), (2, .int v2), (3, .long v3), (5, .int v5), (8, .int v8), (9, .int v9)]) hx hb dX12_weighs_97 hl (by decide) rfl (fun ls hl => ?_)
              refine lv_aload_n hx hb dX12_weighs_99 rfl (lv_at hl 1 rfl) ?_
              refine lv_dup hx hb dX12_weighs_100 rfl ?_
              refine x_getv (v := .int (g 0 60)) (Or.inl fl_X12_374) C hP (by decide) ms_0 rfl dX12_weighs_101 ?_
              refine lv_iload hx hb dX12_weighs_104 (lv_at hl 7 rfl) ?_
              have J122 : ∀ (v6 : Int64) (v8 : Int32) (t0 : Int32) (t1 : Int32) (g : Nat → Nat → Int32) (L : Nat → Nat → Int64) (H : Heap) (locs : List Loc) (ls : Array Slot), fX12_weighs_p122 fu k5 k30 v1 v2 v3 v5 v6 v8 t0 t1 g L = some (res, s9) → va_P G.1 vwCl (zw G MS 51 a g L) H → va_D A (zw G MS 51 a g L) → va_S A s.heap H locs → lv_has ls 10 [(0, .ref (a 0)), (1, .int v1), (2, .int v2), (3, .long v3), (5, .int v5), (6, .long v6), (8, .int v8)] → W p l e { frames := 11, cells := 0, slots := 0, locals := 228 } s m [.ref (a 0), .int p1, .int p2].toArray below meth c H locs 0 0 (MQ below ((kQl G (S := Unit) (fun r' _ => r' = res) (fun _ => zw G MS 51 a s9.1 s9.2)) A) [.ref (a 0), .int p1, .int p2].toArray s 0 0 A) (F0 m 122 ls [.int t0, .int t1, .ref (a 0)]) := by
                intro v6 v8 t0 t1 g L H locs ls h hP hD hS hl
                unfold fX12_weighs_p122 at h
                refine lv_ior hx hb dX12_weighs_122 ?_
                refine y_puti (Or.inl fl_X12_374) ft_X12_60 C hP hD hS (by decide) ms_0 rfl rfl rfl dX12_weighs_123 h (fun g21 H locs h hP hD hS => ?_)
                refine lv_iinc (v := (v8 + 1)) (lv' := [(8, .int (v8 + 1)), (0, .ref (a 0)), (1, .int v1), (2, .int v2), (3, .long v3), (5, .int v5), (6, .long v6)]) hx hb dX12_weighs_126 hl (k := 6) rfl rfl (by decide) rfl (fun ls hl => ?_)
                refine lv_goto (tgt := 30) hx hb dX12_weighs_129 (by decide) ?_
                exact ih30 (v6, (v8 + 1), g21, L) h H locs ls hP hD hS (lv_sub hl [1, 2, 3, 4, 5, 6, 0] rfl)
              refine lv_if_eq (x := v9) (tgt := 113) hx hb dX12_weighs_106 (by decide) (fun c22 => ?_) (fun c22 => ?_)
              ·
                have h := ite_t c22 h
                refine lv_iconst (v := 1) hx hb dX12_weighs_113 (by decide) ?_
                refine lv_aload_n hx hb dX12_weighs_114 rfl (lv_at hl 1 rfl) ?_
                refine x_getr (Or.inl fl_X12_147) C hP (by decide) ms_0 rfl dX12_weighs_115 ?_
                refine lv_iload hx hb dX12_weighs_118 (lv_at hl 6 rfl) ?_
                refine y_ald C hP (by decide) ms_41 dX12_weighs_120 h (fun h => ?_)
                refine lv_ishl hx hb dX12_weighs_121 ?_
                exact J122 y20 v8 ((1 : Int32) <<< (((g 41 (Int32.toNatClampNeg v8)) : Int32) &&& 31) : Int32) (g 0 60) g L H locs ls h hP hD hS (lv_sub hl [1, 2, 3, 4, 5, 0, 6] rfl)
              ·
                have h := ite_e c22 h
                refine lv_iconst (v := 0) hx hb dX12_weighs_109 (by decide) ?_
                refine lv_goto (tgt := 122) hx hb dX12_weighs_110 (by decide) ?_
                exact J122 y20 v8 0 (g 0 60) g L H locs ls h hP hD hS (lv_sub hl [1, 2, 3, 4, 5, 0, 6] rfl)
            refine lv_if_eq (x := t0) (tgt := 80) hx hb dX12_weighs_61 (by decide) (fun c23 => ?_) (fun c23 => ?_)
            ·
              have h := ite_t c23 h
              refine lv_bipush (v := 10) hx hb dX12_weighs_80 (by decide) ?_
              refine lv_aload_n hx hb dX12_weighs_82 rfl (lv_at hl 1 rfl) ?_
              refine x_getr (Or.inl fl_X12_35) C hP (by decide) ms_0 rfl dX12_weighs_83 ?_
              refine lv_aload_n hx hb dX12_weighs_86 rfl (lv_at hl 1 rfl) ?_
              refine x_getr (Or.inl fl_X12_147) C hP (by decide) ms_0 rfl dX12_weighs_87 ?_
              refine lv_iload hx hb dX12_weighs_90 (lv_at hl 7 rfl) ?_
              refine y_ald C hP (by decide) ms_41 dX12_weighs_92 h (fun h => ?_)
              refine y_ald C hP (by decide) ms_7 dX12_weighs_93 h (fun h => ?_)
              refine lv_isub hx hb dX12_weighs_94 ?_
              refine lv_i2l hx hb dX12_weighs_95 rfl ?_
              exact J96 v8 t0 (Int32.toInt64 (10 - (g 7 (Int32.toNatClampNeg (g 41 (Int32.toNatClampNeg v8)))))) v6 g L H locs ls h hP hD hS (lv_sub hl [1, 2, 3, 4, 5, 7, 0] rfl)
            ·
              have h := ite_e c23 h
              refine lv_aload_n hx hb dX12_weighs_64 rfl (lv_at hl 1 rfl) ?_
              refine x_getr (Or.inl fl_X12_35) C hP (by decide) ms_0 rfl dX12_weighs_65 ?_
              refine lv_aload_n hx hb dX12_weighs_68 rfl (lv_at hl 1 rfl) ?_
              refine x_getr (Or.inl fl_X12_147) C hP (by decide) ms_0 rfl dX12_weighs_69 ?_
              refine lv_iload hx hb dX12_weighs_72 (lv_at hl 7 rfl) ?_
              refine y_ald C hP (by decide) ms_41 dX12_weighs_74 h (fun h => ?_)
              refine y_ald C hP (by decide) ms_7 dX12_weighs_75 h (fun h => ?_)
              refine lv_i2l hx hb dX12_weighs_76 rfl ?_
              refine lv_goto (tgt := 96) hx hb dX12_weighs_77 (by decide) ?_
              exact J96 v8 t0 (Int32.toInt64 (g 7 (Int32.toNatClampNeg (g 41 (Int32.toNatClampNeg v8))))) v6 g L H locs ls h hP hD hS (lv_sub hl [1, 2, 3, 4, 5, 7, 0] rfl)
          refine lv_icmp_ne (x := (((v5 : Int32) >>> ((v8 : Int32) &&& 31) : Int32) &&& 1)) (y := 1) (tgt := 54) hx hb dX12_weighs_47 (by decide) (fun c24 => ?_) (fun c24 => ?_)
          ·
            have h := ite_e c24 h
            refine lv_iconst (v := 0) hx hb dX12_weighs_54 (by decide) ?_
            exact J55 v6 v8 0 g L H locs ls h hP hD hS (lv_sub hl [0, 1, 2, 3, 4, 5, 6] rfl)
          ·
            have h := ite_t c24 h
            refine lv_iconst (v := 1) hx hb dX12_weighs_50 (by decide) ?_
            refine lv_goto (tgt := 55) hx hb dX12_weighs_51 (by decide) ?_
            exact J55 v6 v8 1 g L H locs ls h hP hD hS (lv_sub hl [0, 1, 2, 3, 4, 5, 6] rfl)
      exact lp30 v3 v5 fu (1, 0, g3, L) h H locs ls hP hD hS (lv_sub hl [2, 3, 4, 5, 6, 1, 0] rfl)
  exact lp5 p1 p2 fu (0, 0, g, L) h H locs ls hP hD hS (lv_sub hl [2, 3, 4, 1, 0] rfl)
def fX12_portion_p41 (fu : Nat) (v5 : Int64) (t0 : Int64) (g : Nat → Nat → Int32) (L : Nat → Nat → Int64) : Option ((Int64) × zS) :=
  cnzL v5 (
  some ((t0 / v5), (g, L)))
def fX12_portion_s6 (fu : Nat) (v0 : Int64) (v2 : Int64) (v4 : Int32) (k6 : Int64 × Int64 × (Nat → Nat → Int32) × (Nat → Nat → Int64) → Option ((Int64) × zS)) (v5 : Int64) (v7 : Int64) (g : Nat → Nat → Int32) (L : Nat → Nat → Int64) : Option ((Int64) × zS) :=
  if (lg_cmp v7 0) = 0 then (if v4 = 0 then fX12_portion_p41 fu v5 v0 g L
  else fX12_portion_p41 fu v5 v2 g L)
  else cnzL v7 (
  ltl (v5 - v5 / v7 * v7) (fun y3 =>
  k6 (v7, y3, g, L)))
def fX12_portion_l6 (fu : Nat) (v0 : Int64) (v2 : Int64) (v4 : Int32) (v5 : Int64) (v7 : Int64) (g : Nat → Nat → Int32) (L : Nat → Nat → Int64) : Option ((Int64) × zS) :=
  whileK (fun k v => fX12_portion_s6 fu v0 v2 v4 k v.1 v.2.1 v.2.2.1 v.2.2.2) fu (v5, v7, g, L)
def fX12_portion (fu : Nat) (p1 : Int64) (p2 : Int64) (p3 : Int32) (g : Nat → Nat → Int32) (L : Nat → Nat → Int64) : Option ((Int64) × zS) :=
  fX12_portion_l6 fu p1 p2 p3 p2 p1 g L
set_option maxHeartbeats 4000000 in
set_option maxRecDepth 100000 in
theorem rX12_portion (l : Launch) (G : kG) (sz : Nat) (a : Nat → Nat) (fu : Nat) (g : Nat → Nat → Int32) (L : Nat → Nat → Int64) (p1 : Int64) (p2 : Int64) (p3 : Int32) (res : Int64) (s9 : zS) (h : fX12_portion fu p1 p2 p3 g L = some (res, s9)) : kM l yX12_portion cX12_portion 11 (some .long) { frames := 6, cells := 0, slots := 0, locals := 110 } G [.long p1, .long p2, .int p3] (zw G MS 51 a g L) sz (kQl G (S := Unit) (fun r' _ => r' = res) (fun _ => zw G MS 51 a s9.1 s9.2)) := by
  refine kM.of (by decide) (Nat.le_of_ble_eq_true rfl) ?_
  intro p e s m below meth c A ls H C hr hlk hnm hP hD hS hl
  have C : kC G p s m c cX12_portion 11 RX12 A := C
  have hx := C.1
  have hb := C.2.1
  have hl : lv_has ls 11 [(0, .long p1), (2, .long p2), (4, .int p3)] := hl
  obtain ⟨locs, hlocs⟩ : ∃ q : List Loc, q = [] := ⟨_, rfl⟩
  rw [← hlocs] at hS
  rw [← hlocs]
  unfold fX12_portion at h
  refine lv_lload_n hx hb dX12_portion_0 rfl (lv_at hl 1 rfl) ?_
  refine lv_lstore (lv' := [(5, .long p2), (0, .long p1), (2, .long p2), (4, .int p3)]) hx hb dX12_portion_1 hl (by decide) rfl (fun ls hl => ?_)
  refine lv_lload_n hx hb dX12_portion_3 rfl (lv_at hl 1 rfl) ?_
  refine lv_lstore (lv' := [(7, .long p1), (5, .long p2), (0, .long p1), (2, .long p2), (4, .int p3)]) hx hb dX12_portion_4 hl (by decide) rfl (fun ls hl => ?_)
  have lp6 : ∀ (v0 : Int64) (v2 : Int64) (v4 : Int32), ∀ (n : Nat) (v : Int64 × Int64 × (Nat → Nat → Int32) × (Nat → Nat → Int64)), whileK (fun k v => fX12_portion_s6 fu v0 v2 v4 k v.1 v.2.1 v.2.2.1 v.2.2.2) n v = some (res, s9) → ∀ (H : Heap) (locs : List Loc) (ls : Array Slot), va_P G.1 vwCl (zw G MS 51 a (v.2.2.1) (v.2.2.2)) H → va_D A (zw G MS 51 a (v.2.2.1) (v.2.2.2)) → va_S A s.heap H locs → lv_has ls 11 [(0, .long v0), (2, .long v2), (4, .int v4), (5, .long (v.1)), (7, .long (v.2.1))] → W p l e { frames := 6, cells := 0, slots := 0, locals := 110 } s m [.long p1, .long p2, .int p3].toArray below meth c H locs 0 0 (MQ below ((kQl G (S := Unit) (fun r' _ => r' = res) (fun _ => zw G MS 51 a s9.1 s9.2)) A) [.long p1, .long p2, .int p3].toArray s 0 0 A) (F0 m 6 ls []) := by
    intro v0 v2 v4
    refine while_ind (fun k6 ih6 v h => ?_)
    obtain ⟨v5, v7, g, L⟩ := v
    intro H locs ls hP hD hS hl
    have h : fX12_portion_s6 fu v0 v2 v4 k6 v5 v7 g L = some (res, s9) := h
    have hP : va_P G.1 vwCl (zw G MS 51 a g L) H := hP
    have hD : va_D A (zw G MS 51 a g L) := hD
    have hl : lv_has ls 11 [(0, .long v0), (2, .long v2), (4, .int v4), (5, .long v5), (7, .long v7)] := hl
    show W p l e { frames := 6, cells := 0, slots := 0, locals := 110 } s m [.long p1, .long p2, .int p3].toArray below meth c H locs 0 0 (MQ below ((kQl G (S := Unit) (fun r' _ => r' = res) (fun _ => zw G MS 51 a s9.1 s9.2)) A) [.long p1, .long p2, .int p3].toArray s 0 0 A) (F0 m 6 ls [])
    unfold fX12_portion_s6 at h
    refine lv_lload hx hb dX12_portion_6 (lv_at hl 4 rfl) ?_
    refine lv_lconst (v := 0) hx hb dX12_portion_8 (by decide) ?_
    refine W.lcmp hx hb dX12_portion_9 ?_
    refine lv_if_eq (x := (lg_cmp v7 0)) (tgt := 31) hx hb dX12_portion_10 (by decide) (fun c1 => ?_) (fun c1 => ?_)
    ·
      have h := ite_t c1 h
      refine lv_iload hx hb dX12_portion_31 (lv_at hl 2 rfl) ?_
      have J41 : ∀ (v5 : Int64) (t0 : Int64) (g : Nat → Nat → Int32) (L : Nat → Nat → Int64) (H : Heap) (locs : List Loc) (ls : Array Slot), fX12_portion_p41 fu v5 t0 g L = some (res, s9) → va_P G.1 vwCl (zw G MS 51 a g L) H → va_D A (zw G MS 51 a g L) → va_S A s.heap H locs → lv_has ls 11 [(5, .long v5)] → W p l e { frames := 6, cells := 0, slots := 0, locals := 110 } s m [.long p1, .long p2, .int p3].toArray below meth c H locs 0 0 (MQ below ((kQl G (S := Unit) (fun r' _ => r' = res) (fun _ => zw G MS 51 a s9.1 s9.2)) A) [.long p1, .long p2, .int p3].toArray s 0 0 A) (F0 m 41 ls [.long t0]) := by
        intro v5 t0 g L H locs ls h hP hD hS hl
        unfold fX12_portion_p41 at h
        refine lv_lload hx hb dX12_portion_41 (lv_at hl 0 rfl) ?_
        obtain ⟨nz, h⟩ := cnzL_some h
        refine lv_ldiv hx hb dX12_portion_43 nz ?_
        exact y_lret C hr hlk hP hD hS h (Nat.le_of_ble_eq_true rfl) (Nat.le_of_ble_eq_true rfl) dX12_portion_44
      refine lv_if_ne (x := v4) (tgt := 40) hx hb dX12_portion_33 (by decide) (fun c2 => ?_) (fun c2 => ?_)
      ·
        have h := ite_e c2 h
        refine lv_lload_n hx hb dX12_portion_40 rfl (lv_at hl 1 rfl) ?_
        exact J41 v5 v2 g L H locs ls h hP hD hS (lv_sub hl [3] rfl)
      ·
        have h := ite_t c2 h
        refine lv_lload_n hx hb dX12_portion_36 rfl (lv_at hl 0 rfl) ?_
        refine lv_goto (tgt := 41) hx hb dX12_portion_37 (by decide) ?_
        exact J41 v5 v0 g L H locs ls h hP hD hS (lv_sub hl [3] rfl)
    ·
      have h := ite_e c1 h
      refine lv_lload hx hb dX12_portion_13 (lv_at hl 3 rfl) ?_
      refine lv_lload hx hb dX12_portion_15 (lv_at hl 4 rfl) ?_
      obtain ⟨nz, h⟩ := cnzL_some h
      refine lv_lrem hx hb dX12_portion_17 nz ?_
      refine y_letL h (fun y3 h => ?_)
      refine lv_lstore (lv' := [(9, .long y3), (0, .long v0), (2, .long v2), (4, .int v4), (5, .long v5), (7, .long v7)]) hx hb dX12_portion_18 hl (by decide) rfl (fun ls hl => ?_)
      refine lv_lload hx hb dX12_portion_20 (lv_at hl 5 rfl) ?_
      refine lv_lstore (lv' := [(5, .long v7), (9, .long y3), (0, .long v0), (2, .long v2), (4, .int v4), (7, .long v7)]) hx hb dX12_portion_22 hl (by decide) rfl (fun ls hl => ?_)
      refine lv_lload hx hb dX12_portion_24 (lv_at hl 1 rfl) ?_
      refine lv_lstore (lv' := [(7, .long y3), (5, .long v7), (9, .long y3), (0, .long v0), (2, .long v2), (4, .int v4)]) hx hb dX12_portion_26 hl (by decide) rfl (fun ls hl => ?_)
      refine lv_goto (tgt := 6) hx hb dX12_portion_28 (by decide) ?_
      exact ih6 (v7, y3, g, L) h H locs ls hP hD hS (lv_sub hl [3, 4, 5, 1, 0] rfl)
  exact lp6 p1 p2 p3 fu (p2, p1, g, L) h H locs ls hP hD hS (lv_sub hl [2, 3, 4, 1, 0] rfl)
def fX12_chance_p38 (fu : Nat) (g : Nat → Nat → Int32) (L : Nat → Nat → Int64) : Option ((Int64) × zS) :=
  some (0, (g, L))
def fX12_chance (fu : Nat) (p1 : Int32) (p2 : Int32) (p3 : Int32) (g : Nat → Nat → Int32) (L : Nat → Nat → Int64) : Option ((Int64) × zS) :=
  sti g 0 0 0 (fun g1 =>
  cb (fX12_isLesson fu p1 g1 L) (fun x2 g3 L4 =>
  if x2 = 0 then fX12_chance_p38 fu g3 L4
  else cb (fX12_isWhat fu p3 1 g3 L4) (fun x7 g8 L9 =>
  if x7 = 0 then fX12_chance_p38 fu g8 L9
  else cb (fX12_within fu p2 0 999 g8 L9) (fun x12 g13 L14 =>
  cb (fX12_right fu x12 2 g13 L14) (fun x16 g17 L18 =>
  if x16 = 0 then fX12_chance_p38 fu g17 L18
  else cb (fX12_asks fu g17 L18) (fun x21 g22 L23 =>
  cb (fX12_weighs fu p1 p2 g22 L23) (fun x25 g26 L27 =>
  cb (fX12_tens fu g26 L27) (fun x29 g30 L31 =>
  cb (fX12_portion fu x25 x29 p3 g30 L31) (fun x33 g34 L35 =>
  some (x33, (g34, L35)))))))))))
set_option maxHeartbeats 4000000 in
set_option maxRecDepth 100000 in
theorem rX12_chance (l : Launch) (G : kG) (sz : Nat) (a : Nat → Nat) (fu : Nat) (g : Nat → Nat → Int32) (L : Nat → Nat → Int64) (p1 : Int32) (p2 : Int32) (p3 : Int32) (res : Int64) (s9 : zS) (h : fX12_chance fu p1 p2 p3 g L = some (res, s9)) : kM l yX12_chance cX12_chance 4 (some .long) { frames := 12, cells := 0, slots := 0, locals := 257 } G [.ref (a 0), .int p1, .int p2, .int p3] (zw G MS 51 a g L) sz (kQl G (S := Unit) (fun r' _ => r' = res) (fun _ => zw G MS 51 a s9.1 s9.2)) := by
  refine kM.of (by decide) (Nat.le_of_ble_eq_true rfl) ?_
  intro p e s m below meth c A ls H C hr hlk hnm hP hD hS hl
  have C : kC G p s m c cX12_chance 4 RX12 A := C
  have hx := C.1
  have hb := C.2.1
  have hl : lv_has ls 4 [(0, .ref (a 0)), (1, .int p1), (2, .int p2), (3, .int p3)] := hl
  obtain ⟨locs, hlocs⟩ : ∃ q : List Loc, q = [] := ⟨_, rfl⟩
  rw [← hlocs] at hS
  rw [← hlocs]
  unfold fX12_chance at h
  refine lv_aload_n hx hb dX12_chance_0 rfl (lv_at hl 0 rfl) ?_
  refine lv_iconst (v := 0) hx hb dX12_chance_1 (by decide) ?_
  refine y_puti (Or.inl fl_X12_177) ft_X12_0 C hP hD hS (by decide) ms_0 rfl rfl rfl dX12_chance_2 h (fun g1 H locs h hP hD hS => ?_)
  refine lv_aload_n hx hb dX12_chance_5 rfl (lv_at hl 0 rfl) ?_
  refine lv_iload_n hx hb dX12_chance_6 rfl (lv_at hl 1 rfl) ?_
  obtain ⟨z_, g3, L4, hf5, h⟩ := cb_some h
  refine x_callVi (rest := []) li_X12_402 C (rX12_isLesson l G H.size a fu g1 L p1 z_ (g3, L4) hf5) (kR rfl) hP hD hS 0 12 rfl (zat (by decide) ms_0) rfl hl.1 rfl (Nat.le_of_ble_eq_true rfl) dX12_chance_7 (fun x2 u_ H locs e_ hP hD hS => ?_)
  have e_ : x2 = z_ := e_
  subst e_
  have hP : va_P G.1 vwCl (zw G MS 51 a g3 L4) H := hP
  have hD : va_D A (zw G MS 51 a g3 L4) := hD
  have J38 : ∀ (g : Nat → Nat → Int32) (L : Nat → Nat → Int64) (H : Heap) (locs : List Loc) (ls : Array Slot), fX12_chance_p38 fu g L = some (res, s9) → va_P G.1 vwCl (zw G MS 51 a g L) H → va_D A (zw G MS 51 a g L) → va_S A s.heap H locs → lv_has ls 4 [] → W p l e { frames := 12, cells := 0, slots := 0, locals := 257 } s m [.ref (a 0), .int p1, .int p2, .int p3].toArray below meth c H locs 0 0 (MQ below ((kQl G (S := Unit) (fun r' _ => r' = res) (fun _ => zw G MS 51 a s9.1 s9.2)) A) [.ref (a 0), .int p1, .int p2, .int p3].toArray s 0 0 A) (F0 m 38 ls []) := by
    intro g L H locs ls h hP hD hS hl
    unfold fX12_chance_p38 at h
    refine lv_lconst (v := 0) hx hb dX12_chance_38 (by decide) ?_
    exact y_lret C hr hlk hP hD hS h (Nat.le_of_ble_eq_true rfl) (Nat.le_of_ble_eq_true rfl) dX12_chance_39
  refine lv_if_eq (x := x2) (tgt := 38) hx hb dX12_chance_10 (by decide) (fun c6 => ?_) (fun c6 => ?_)
  ·
    have h := ite_t c6 h
    exact J38 g3 L4 H locs ls h hP hD hS (lv_sub hl [] rfl)
  ·
    have h := ite_e c6 h
    refine lv_aload_n hx hb dX12_chance_13 rfl (lv_at hl 0 rfl) ?_
    refine lv_iload_n hx hb dX12_chance_14 rfl (lv_at hl 3 rfl) ?_
    refine lv_iconst (v := 1) hx hb dX12_chance_15 (by decide) ?_
    obtain ⟨z_, g8, L9, hf10, h⟩ := cb_some h
    refine x_callVi (rest := []) li_X12_405 C (rX12_isWhat l G H.size a fu g3 L4 p3 1 z_ (g8, L9) hf10) (kR rfl) hP hD hS 0 12 rfl (zat (by decide) ms_0) rfl hl.1 rfl (Nat.le_of_ble_eq_true rfl) dX12_chance_16 (fun x7 u_ H locs e_ hP hD hS => ?_)
    have e_ : x7 = z_ := e_
    subst e_
    have hP : va_P G.1 vwCl (zw G MS 51 a g8 L9) H := hP
    have hD : va_D A (zw G MS 51 a g8 L9) := hD
    refine lv_if_eq (x := x7) (tgt := 38) hx hb dX12_chance_19 (by decide) (fun c11 => ?_) (fun c11 => ?_)
    ·
      have h := ite_t c11 h
      exact J38 g8 L9 H locs ls h hP hD hS (lv_sub hl [] rfl)
    ·
      have h := ite_e c11 h
      refine lv_aload_n hx hb dX12_chance_22 rfl (lv_at hl 0 rfl) ?_
      refine lv_iload_n hx hb dX12_chance_23 rfl (lv_at hl 2 rfl) ?_
      refine lv_iconst (v := 0) hx hb dX12_chance_24 (by decide) ?_
      refine lv_sipush (v := 999) hx hb dX12_chance_25 (by decide) ?_
      obtain ⟨z_, g13, L14, hf15, h⟩ := cb_some h
      refine x_callSi (rest := [.ref (a 0)]) li_X12_392 C (rX12_within l G H.size a fu g8 L9 p2 0 999 z_ (g13, L14) hf15) (kR rfl) hP hD hS rfl hl.1 rfl (Nat.le_of_ble_eq_true rfl) dX12_chance_28 (fun x12 u_ H locs e_ hP hD hS => ?_)
      have e_ : x12 = z_ := e_
      subst e_
      have hP : va_P G.1 vwCl (zw G MS 51 a g13 L14) H := hP
      have hD : va_D A (zw G MS 51 a g13 L14) := hD
      refine lv_iconst (v := 2) hx hb dX12_chance_31 (by decide) ?_
      obtain ⟨z_, g17, L18, hf19, h⟩ := cb_some h
      refine x_callVi (rest := []) li_X12_328 C (rX12_right l G H.size a fu g13 L14 x12 2 z_ (g17, L18) hf19) (kR rfl) hP hD hS 0 12 rfl (zat (by decide) ms_0) rfl hl.1 rfl (Nat.le_of_ble_eq_true rfl) dX12_chance_32 (fun x16 u_ H locs e_ hP hD hS => ?_)
      have e_ : x16 = z_ := e_
      subst e_
      have hP : va_P G.1 vwCl (zw G MS 51 a g17 L18) H := hP
      have hD : va_D A (zw G MS 51 a g17 L18) := hD
      refine lv_if_ne (x := x16) (tgt := 40) hx hb dX12_chance_35 (by decide) (fun c20 => ?_) (fun c20 => ?_)
      ·
        have h := ite_e c20 h
        refine lv_aload_n hx hb dX12_chance_40 rfl (lv_at hl 0 rfl) ?_
        obtain ⟨z_, g22, L23, hf24, h⟩ := cb_some h
        refine x_callVv (rest := []) li_X12_438 C (rX12_asks l G H.size a fu g17 L18 z_ (g22, L23) hf24) (kR rfl) hP hD hS 0 12 rfl (zat (by decide) ms_0) rfl hl.1 rfl (Nat.le_of_ble_eq_true rfl) dX12_chance_41 (fun u_ H locs e_ hP hD hS => ?_)
        have hP : va_P G.1 vwCl (zw G MS 51 a g22 L23) H := hP
        have hD : va_D A (zw G MS 51 a g22 L23) := hD
        refine lv_aload_n hx hb dX12_chance_44 rfl (lv_at hl 0 rfl) ?_
        refine lv_iload_n hx hb dX12_chance_45 rfl (lv_at hl 1 rfl) ?_
        refine lv_iload_n hx hb dX12_chance_46 rfl (lv_at hl 2 rfl) ?_
        obtain ⟨z_, g26, L27, hf28, h⟩ := cb_some h
        refine x_callVl (rest := []) li_X12_441 C (rX12_weighs l G H.size a fu g22 L23 p1 p2 z_ (g26, L27) hf28) (kR rfl) hP hD hS 0 12 rfl (zat (by decide) ms_0) rfl hl.1 rfl (Nat.le_of_ble_eq_true rfl) dX12_chance_47 (fun x25 u_ H locs e_ hP hD hS => ?_)
        have e_ : x25 = z_ := e_
        subst e_
        have hP : va_P G.1 vwCl (zw G MS 51 a g26 L27) H := hP
        have hD : va_D A (zw G MS 51 a g26 L27) := hD
        refine lv_aload_n hx hb dX12_chance_50 rfl (lv_at hl 0 rfl) ?_
        obtain ⟨z_, g30, L31, hf32, h⟩ := cb_some h
        refine x_callVl (rest := [.long x25]) li_X12_445 C (rX12_tens l G H.size a fu g26 L27 z_ (g30, L31) hf32) (kR rfl) hP hD hS 0 12 rfl (zat (by decide) ms_0) rfl hl.1 rfl (Nat.le_of_ble_eq_true rfl) dX12_chance_51 (fun x29 u_ H locs e_ hP hD hS => ?_)
        have e_ : x29 = z_ := e_
        subst e_
        have hP : va_P G.1 vwCl (zw G MS 51 a g30 L31) H := hP
        have hD : va_D A (zw G MS 51 a g30 L31) := hD
        refine lv_iload_n hx hb dX12_chance_54 rfl (lv_at hl 3 rfl) ?_
        obtain ⟨z_, g34, L35, hf36, h⟩ := cb_some h
        refine x_callSl (rest := []) li_X12_449 C (rX12_portion l G H.size a fu g30 L31 x25 x29 p3 z_ (g34, L35) hf36) (kR rfl) hP hD hS rfl hl.1 rfl (Nat.le_of_ble_eq_true rfl) dX12_chance_55 (fun x33 u_ H locs e_ hP hD hS => ?_)
        have e_ : x33 = z_ := e_
        subst e_
        have hP : va_P G.1 vwCl (zw G MS 51 a g34 L35) H := hP
        have hD : va_D A (zw G MS 51 a g34 L35) := hD
        exact y_lret C hr hlk hP hD hS h (Nat.le_of_ble_eq_true rfl) (Nat.le_of_ble_eq_true rfl) dX12_chance_58
      ·
        have h := ite_t c20 h
        exact J38 g17 L18 H locs ls h hP hD hS (lv_sub hl [] rfl)
def fX12_mean_p22 (fu : Nat) (g : Nat → Nat → Int32) (L : Nat → Nat → Int64) : Option ((Int64) × zS) :=
  some (0, (g, L))
def fX12_mean (fu : Nat) (p1 : Int32) (p2 : Int32) (g : Nat → Nat → Int32) (L : Nat → Nat → Int64) : Option ((Int64) × zS) :=
  sti g 0 0 0 (fun g1 =>
  cb (fX12_isLesson fu p1 g1 L) (fun x2 g3 L4 =>
  if x2 = 0 then fX12_mean_p22 fu g3 L4
  else cb (fX12_isWhat fu p2 1 g3 L4) (fun x7 g8 L9 =>
  if x7 = 0 then fX12_mean_p22 fu g8 L9
  else cb (fX12_asks fu g8 L9) (fun x12 g13 L14 =>
  cb (fX12_weighs fu p1 (-1) g13 L14) (fun x16 g17 L18 =>
  cb (fX12_tens fu g17 L18) (fun x20 g21 L22 =>
  cb (fX12_portion fu x16 x20 p2 g21 L22) (fun x24 g25 L26 =>
  some (x24, (g25, L26)))))))))
set_option maxHeartbeats 4000000 in
set_option maxRecDepth 100000 in
theorem rX12_mean (l : Launch) (G : kG) (sz : Nat) (a : Nat → Nat) (fu : Nat) (g : Nat → Nat → Int32) (L : Nat → Nat → Int64) (p1 : Int32) (p2 : Int32) (res : Int64) (s9 : zS) (h : fX12_mean fu p1 p2 g L = some (res, s9)) : kM l yX12_mean cX12_mean 3 (some .long) { frames := 12, cells := 0, slots := 0, locals := 257 } G [.ref (a 0), .int p1, .int p2] (zw G MS 51 a g L) sz (kQl G (S := Unit) (fun r' _ => r' = res) (fun _ => zw G MS 51 a s9.1 s9.2)) := by
  refine kM.of (by decide) (Nat.le_of_ble_eq_true rfl) ?_
  intro p e s m below meth c A ls H C hr hlk hnm hP hD hS hl
  have C : kC G p s m c cX12_mean 3 RX12 A := C
  have hx := C.1
  have hb := C.2.1
  have hl : lv_has ls 3 [(0, .ref (a 0)), (1, .int p1), (2, .int p2)] := hl
  obtain ⟨locs, hlocs⟩ : ∃ q : List Loc, q = [] := ⟨_, rfl⟩
  rw [← hlocs] at hS
  rw [← hlocs]
  unfold fX12_mean at h
  refine lv_aload_n hx hb dX12_mean_0 rfl (lv_at hl 0 rfl) ?_
  refine lv_iconst (v := 0) hx hb dX12_mean_1 (by decide) ?_
  refine y_puti (Or.inl fl_X12_177) ft_X12_0 C hP hD hS (by decide) ms_0 rfl rfl rfl dX12_mean_2 h (fun g1 H locs h hP hD hS => ?_)
  refine lv_aload_n hx hb dX12_mean_5 rfl (lv_at hl 0 rfl) ?_
  refine lv_iload_n hx hb dX12_mean_6 rfl (lv_at hl 1 rfl) ?_
  obtain ⟨z_, g3, L4, hf5, h⟩ := cb_some h
  refine x_callVi (rest := []) li_X12_402 C (rX12_isLesson l G H.size a fu g1 L p1 z_ (g3, L4) hf5) (kR rfl) hP hD hS 0 12 rfl (zat (by decide) ms_0) rfl hl.1 rfl (Nat.le_of_ble_eq_true rfl) dX12_mean_7 (fun x2 u_ H locs e_ hP hD hS => ?_)
  have e_ : x2 = z_ := e_
  subst e_
  have hP : va_P G.1 vwCl (zw G MS 51 a g3 L4) H := hP
  have hD : va_D A (zw G MS 51 a g3 L4) := hD
  have J22 : ∀ (g : Nat → Nat → Int32) (L : Nat → Nat → Int64) (H : Heap) (locs : List Loc) (ls : Array Slot), fX12_mean_p22 fu g L = some (res, s9) → va_P G.1 vwCl (zw G MS 51 a g L) H → va_D A (zw G MS 51 a g L) → va_S A s.heap H locs → lv_has ls 3 [] → W p l e { frames := 12, cells := 0, slots := 0, locals := 257 } s m [.ref (a 0), .int p1, .int p2].toArray below meth c H locs 0 0 (MQ below ((kQl G (S := Unit) (fun r' _ => r' = res) (fun _ => zw G MS 51 a s9.1 s9.2)) A) [.ref (a 0), .int p1, .int p2].toArray s 0 0 A) (F0 m 22 ls []) := by
    intro g L H locs ls h hP hD hS hl
    unfold fX12_mean_p22 at h
    refine lv_lconst (v := 0) hx hb dX12_mean_22 (by decide) ?_
    exact y_lret C hr hlk hP hD hS h (Nat.le_of_ble_eq_true rfl) (Nat.le_of_ble_eq_true rfl) dX12_mean_23
  refine lv_if_eq (x := x2) (tgt := 22) hx hb dX12_mean_10 (by decide) (fun c6 => ?_) (fun c6 => ?_)
  ·
    have h := ite_t c6 h
    exact J22 g3 L4 H locs ls h hP hD hS (lv_sub hl [] rfl)
  ·
    have h := ite_e c6 h
    refine lv_aload_n hx hb dX12_mean_13 rfl (lv_at hl 0 rfl) ?_
    refine lv_iload_n hx hb dX12_mean_14 rfl (lv_at hl 2 rfl) ?_
    refine lv_iconst (v := 1) hx hb dX12_mean_15 (by decide) ?_
    obtain ⟨z_, g8, L9, hf10, h⟩ := cb_some h
    refine x_callVi (rest := []) li_X12_405 C (rX12_isWhat l G H.size a fu g3 L4 p2 1 z_ (g8, L9) hf10) (kR rfl) hP hD hS 0 12 rfl (zat (by decide) ms_0) rfl hl.1 rfl (Nat.le_of_ble_eq_true rfl) dX12_mean_16 (fun x7 u_ H locs e_ hP hD hS => ?_)
    have e_ : x7 = z_ := e_
    subst e_
    have hP : va_P G.1 vwCl (zw G MS 51 a g8 L9) H := hP
    have hD : va_D A (zw G MS 51 a g8 L9) := hD
    refine lv_if_ne (x := x7) (tgt := 24) hx hb dX12_mean_19 (by decide) (fun c11 => ?_) (fun c11 => ?_)
    ·
      have h := ite_e c11 h
      refine lv_aload_n hx hb dX12_mean_24 rfl (lv_at hl 0 rfl) ?_
      obtain ⟨z_, g13, L14, hf15, h⟩ := cb_some h
      refine x_callVv (rest := []) li_X12_438 C (rX12_asks l G H.size a fu g8 L9 z_ (g13, L14) hf15) (kR rfl) hP hD hS 0 12 rfl (zat (by decide) ms_0) rfl hl.1 rfl (Nat.le_of_ble_eq_true rfl) dX12_mean_25 (fun u_ H locs e_ hP hD hS => ?_)
      have hP : va_P G.1 vwCl (zw G MS 51 a g13 L14) H := hP
      have hD : va_D A (zw G MS 51 a g13 L14) := hD
      refine lv_aload_n hx hb dX12_mean_28 rfl (lv_at hl 0 rfl) ?_
      refine lv_iload_n hx hb dX12_mean_29 rfl (lv_at hl 1 rfl) ?_
      refine lv_iconst (v := -1) hx hb dX12_mean_30 (by decide) ?_
      obtain ⟨z_, g17, L18, hf19, h⟩ := cb_some h
      refine x_callVl (rest := []) li_X12_441 C (rX12_weighs l G H.size a fu g13 L14 p1 (-1) z_ (g17, L18) hf19) (kR rfl) hP hD hS 0 12 rfl (zat (by decide) ms_0) rfl hl.1 rfl (Nat.le_of_ble_eq_true rfl) dX12_mean_31 (fun x16 u_ H locs e_ hP hD hS => ?_)
      have e_ : x16 = z_ := e_
      subst e_
      have hP : va_P G.1 vwCl (zw G MS 51 a g17 L18) H := hP
      have hD : va_D A (zw G MS 51 a g17 L18) := hD
      refine lv_aload_n hx hb dX12_mean_34 rfl (lv_at hl 0 rfl) ?_
      obtain ⟨z_, g21, L22, hf23, h⟩ := cb_some h
      refine x_callVl (rest := [.long x16]) li_X12_445 C (rX12_tens l G H.size a fu g17 L18 z_ (g21, L22) hf23) (kR rfl) hP hD hS 0 12 rfl (zat (by decide) ms_0) rfl hl.1 rfl (Nat.le_of_ble_eq_true rfl) dX12_mean_35 (fun x20 u_ H locs e_ hP hD hS => ?_)
      have e_ : x20 = z_ := e_
      subst e_
      have hP : va_P G.1 vwCl (zw G MS 51 a g21 L22) H := hP
      have hD : va_D A (zw G MS 51 a g21 L22) := hD
      refine lv_iload_n hx hb dX12_mean_38 rfl (lv_at hl 2 rfl) ?_
      obtain ⟨z_, g25, L26, hf27, h⟩ := cb_some h
      refine x_callSl (rest := []) li_X12_449 C (rX12_portion l G H.size a fu g21 L22 x16 x20 p2 z_ (g25, L26) hf27) (kR rfl) hP hD hS rfl hl.1 rfl (Nat.le_of_ble_eq_true rfl) dX12_mean_39 (fun x24 u_ H locs e_ hP hD hS => ?_)
      have e_ : x24 = z_ := e_
      subst e_
      have hP : va_P G.1 vwCl (zw G MS 51 a g25 L26) H := hP
      have hD : va_D A (zw G MS 51 a g25 L26) := hD
      exact y_lret C hr hlk hP hD hS h (Nat.le_of_ble_eq_true rfl) (Nat.le_of_ble_eq_true rfl) dX12_mean_42
    ·
      have h := ite_t c11 h
      exact J22 g8 L9 H locs ls h hP hD hS (lv_sub hl [] rfl)
def fX12_swaps (fu : Nat) (p1 : Int32) (p2 : Int32) (g : Nat → Nat → Int32) (L : Nat → Nat → Int64) : Option ((Unit) × zS) :=
  ck (0 + p1) 48 (
  lti (g 12 (Int32.toNatClampNeg (0 + p1))) (fun x1 =>
  ck (0 + p2) 48 (
  ck (0 + p1) 48 (sti g 12 (Int32.toNatClampNeg (0 + p1)) (g 12 (Int32.toNatClampNeg (0 + p2))) (fun g2 =>
  ck (0 + p2) 48 (sti g2 12 (Int32.toNatClampNeg (0 + p2)) x1 (fun g3 =>
  some ((), (g3, L)))))))))
set_option maxHeartbeats 4000000 in
set_option maxRecDepth 100000 in
theorem rX12_swaps (l : Launch) (G : kG) (sz : Nat) (a : Nat → Nat) (fu : Nat) (g : Nat → Nat → Int32) (L : Nat → Nat → Int64) (p1 : Int32) (p2 : Int32) (res : Unit) (s9 : zS) (h : fX12_swaps fu p1 p2 g L = some (res, s9)) : kM l yX12_swaps cX12_swaps 4 none { frames := 6, cells := 0, slots := 0, locals := 110 } G [.ref (a 0), .int p1, .int p2] (zw G MS 51 a g L) sz (kQv G (S := Unit) (fun _ => True) (fun _ => zw G MS 51 a s9.1 s9.2)) := by
  refine kM.of (by decide) (Nat.le_of_ble_eq_true rfl) ?_
  intro p e s m below meth c A ls H C hr hlk hnm hP hD hS hl
  have C : kC G p s m c cX12_swaps 4 RX12 A := C
  have hx := C.1
  have hb := C.2.1
  have hl : lv_has ls 4 [(0, .ref (a 0)), (1, .int p1), (2, .int p2)] := hl
  obtain ⟨locs, hlocs⟩ : ∃ q : List Loc, q = [] := ⟨_, rfl⟩
  rw [← hlocs] at hS
  rw [← hlocs]
  unfold fX12_swaps at h
  refine lv_aload_n hx hb dX12_swaps_0 rfl (lv_at hl 0 rfl) ?_
  refine x_getr (Or.inl fl_X12_50) C hP (by decide) ms_0 rfl dX12_swaps_1 ?_
  refine lv_iconst (v := 0) hx hb dX12_swaps_4 (by decide) ?_
  refine lv_iload_n hx hb dX12_swaps_5 rfl (lv_at hl 1 rfl) ?_
  refine lv_iadd hx hb dX12_swaps_6 ?_
  refine y_ald C hP (by decide) ms_12 dX12_swaps_7 h (fun h => ?_)
  refine y_let h (fun x1 h => ?_)
  refine lv_istore_n (lv' := [(3, .int x1), (0, .ref (a 0)), (1, .int p1), (2, .int p2)]) hx hb dX12_swaps_8 rfl hl (by decide) rfl (fun ls hl => ?_)
  refine lv_aload_n hx hb dX12_swaps_9 rfl (lv_at hl 1 rfl) ?_
  refine x_getr (Or.inl fl_X12_50) C hP (by decide) ms_0 rfl dX12_swaps_10 ?_
  refine lv_iconst (v := 0) hx hb dX12_swaps_13 (by decide) ?_
  refine lv_iload_n hx hb dX12_swaps_14 rfl (lv_at hl 2 rfl) ?_
  refine lv_iadd hx hb dX12_swaps_15 ?_
  refine lv_aload_n hx hb dX12_swaps_16 rfl (lv_at hl 1 rfl) ?_
  refine x_getr (Or.inl fl_X12_50) C hP (by decide) ms_0 rfl dX12_swaps_17 ?_
  refine lv_iconst (v := 0) hx hb dX12_swaps_20 (by decide) ?_
  refine lv_iload_n hx hb dX12_swaps_21 rfl (lv_at hl 3 rfl) ?_
  refine lv_iadd hx hb dX12_swaps_22 ?_
  refine y_ald C hP (by decide) ms_12 dX12_swaps_23 h (fun h => ?_)
  refine y_ast C hP hD hS (by decide) ms_12 dX12_swaps_24 h (fun g2 H locs h hP hD hS => ?_)
  refine lv_aload_n hx hb dX12_swaps_25 rfl (lv_at hl 1 rfl) ?_
  refine x_getr (Or.inl fl_X12_50) C hP (by decide) ms_0 rfl dX12_swaps_26 ?_
  refine lv_iconst (v := 0) hx hb dX12_swaps_29 (by decide) ?_
  refine lv_iload_n hx hb dX12_swaps_30 rfl (lv_at hl 3 rfl) ?_
  refine lv_iadd hx hb dX12_swaps_31 ?_
  refine lv_iload_n hx hb dX12_swaps_32 rfl (lv_at hl 0 rfl) ?_
  refine y_ast C hP hD hS (by decide) ms_12 dX12_swaps_33 h (fun g3 H locs h hP hD hS => ?_)
  exact y_vret C hr hlk hP hD hS h (Nat.le_of_ble_eq_true rfl) (Nat.le_of_ble_eq_true rfl) dX12_swaps_34
def fX12_swap_p119 (fu : Nat) (t0 : Int32) (g : Nat → Nat → Int32) (L : Nat → Nat → Int64) : Option ((Int32) × zS) :=
  some (t0, (g, L))
def fX12_swap_p114 (fu : Nat) (v2 : Int32) (g : Nat → Nat → Int32) (L : Nat → Nat → Int64) : Option ((Int32) × zS) :=
  fX12_swap_p119 fu v2 g L
def fX12_swap_p93 (fu : Nat) (k26 : Int32 × Int32 × Int32 × (Nat → Nat → Int32) × (Nat → Nat → Int64) → Option ((Int32) × zS)) (k41 : Int32 × Int32 × Int32 × (Nat → Nat → Int32) × (Nat → Nat → Int64) → Option ((Int32) × zS)) (v1 : Int32) (v2 : Int32) (v3 : Int32) (v4 : Int32) (v5 : Int32) (g : Nat → Nat → Int32) (L : Nat → Nat → Int64) : Option ((Int32) × zS) :=
  k41 (v2, v3, (v5 + 1), g, L)
def fX12_swap_s41 (fu : Nat) (k26 : Int32 × Int32 × Int32 × (Nat → Nat → Int32) × (Nat → Nat → Int64) → Option ((Int32) × zS)) (v1 : Int32) (v4 : Int32) (k41 : Int32 × Int32 × Int32 × (Nat → Nat → Int32) × (Nat → Nat → Int64) → Option ((Int32) × zS)) (v2 : Int32) (v3 : Int32) (v5 : Int32) (g : Nat → Nat → Int32) (L : Nat → Nat → Int64) : Option ((Int32) × zS) :=
  if (g 0 1) ≤ v5 then k26 (v2, v3, (v4 + 1), g, L)
  else cb (fX12_swaps fu v4 v5 g L) (fun x16 g17 L18 =>
  cb (fX12_lost fu g17 L18) (fun x20 g21 L22 =>
  cb (fX12_swaps fu v4 v5 g21 L22) (fun x24 g25 L26 =>
  if (x20 : Int32) < v3 then lti ((100 * v4) + v5) (fun x29 =>
  fX12_swap_p93 fu k26 k41 v1 x29 x20 v4 v5 g25 L26)
  else fX12_swap_p93 fu k26 k41 v1 v2 v3 v4 v5 g25 L26)))
def fX12_swap_l41 (fu : Nat) (k26 : Int32 × Int32 × Int32 × (Nat → Nat → Int32) × (Nat → Nat → Int64) → Option ((Int32) × zS)) (v1 : Int32) (v4 : Int32) (v2 : Int32) (v3 : Int32) (v5 : Int32) (g : Nat → Nat → Int32) (L : Nat → Nat → Int64) : Option ((Int32) × zS) :=
  whileK (fun k v => fX12_swap_s41 fu k26 v1 v4 k v.1 v.2.1 v.2.2.1 v.2.2.2.1 v.2.2.2.2) fu (v2, v3, v5, g, L)
def fX12_swap_s26 (fu : Nat) (v1 : Int32) (k26 : Int32 × Int32 × Int32 × (Nat → Nat → Int32) × (Nat → Nat → Int64) → Option ((Int32) × zS)) (v2 : Int32) (v3 : Int32) (v4 : Int32) (g : Nat → Nat → Int32) (L : Nat → Nat → Int64) : Option ((Int32) × zS) :=
  if (g 0 1) ≤ v4 then (if (v2 : Int32) = (-1) then fX12_swap_p114 fu v2 g L
  else if v1 = 0 then fX12_swap_p114 fu v2 g L
  else fX12_swap_p119 fu v3 g L)
  else lti (v4 + 1) (fun x14 =>
  fX12_swap_l41 fu k26 v1 v4 v2 v3 x14 g L)
def fX12_swap_l26 (fu : Nat) (v1 : Int32) (v2 : Int32) (v3 : Int32) (v4 : Int32) (g : Nat → Nat → Int32) (L : Nat → Nat → Int64) : Option ((Int32) × zS) :=
  whileK (fun k v => fX12_swap_s26 fu v1 k v.1 v.2.1 v.2.2.1 v.2.2.2.1 v.2.2.2.2) fu (v2, v3, v4, g, L)
def fX12_swap (fu : Nat) (p1 : Int32) (g : Nat → Nat → Int32) (L : Nat → Nat → Int64) : Option ((Int32) × zS) :=
  sti g 0 0 0 (fun g1 =>
  cb (fX12_isWhat fu p1 1 g1 L) (fun x2 g3 L4 =>
  if x2 = 0 then some (0, (g3, L4))
  else cb (fX12_lost fu g3 L4) (fun x7 g8 L9 =>
  fX12_swap_l26 fu p1 (-1) x7 0 g8 L9)))
set_option maxHeartbeats 4000000 in
set_option maxRecDepth 100000 in
theorem rX12_swap (l : Launch) (G : kG) (sz : Nat) (a : Nat → Nat) (fu : Nat) (g : Nat → Nat → Int32) (L : Nat → Nat → Int64) (p1 : Int32) (res : Int32) (s9 : zS) (h : fX12_swap fu p1 g L = some (res, s9)) : kM l yX12_swap cX12_swap 7 (some .int) { frames := 12, cells := 0, slots := 0, locals := 250 } G [.ref (a 0), .int p1] (zw G MS 51 a g L) sz (kQi G (S := Unit) (fun r' _ => r' = res) (fun _ => zw G MS 51 a s9.1 s9.2)) := by
  refine kM.of (by decide) (Nat.le_of_ble_eq_true rfl) ?_
  intro p e s m below meth c A ls H C hr hlk hnm hP hD hS hl
  have C : kC G p s m c cX12_swap 7 RX12 A := C
  have hx := C.1
  have hb := C.2.1
  have hl : lv_has ls 7 [(0, .ref (a 0)), (1, .int p1)] := hl
  obtain ⟨locs, hlocs⟩ : ∃ q : List Loc, q = [] := ⟨_, rfl⟩
  rw [← hlocs] at hS
  rw [← hlocs]
  unfold fX12_swap at h
  refine lv_aload_n hx hb dX12_swap_0 rfl (lv_at hl 0 rfl) ?_
  refine lv_iconst (v := 0) hx hb dX12_swap_1 (by decide) ?_
  refine y_puti (Or.inl fl_X12_177) ft_X12_0 C hP hD hS (by decide) ms_0 rfl rfl rfl dX12_swap_2 h (fun g1 H locs h hP hD hS => ?_)
  refine lv_aload_n hx hb dX12_swap_5 rfl (lv_at hl 0 rfl) ?_
  refine lv_iload_n hx hb dX12_swap_6 rfl (lv_at hl 1 rfl) ?_
  refine lv_iconst (v := 1) hx hb dX12_swap_7 (by decide) ?_
  obtain ⟨z_, g3, L4, hf5, h⟩ := cb_some h
  refine x_callVi (rest := []) li_X12_405 C (rX12_isWhat l G H.size a fu g1 L p1 1 z_ (g3, L4) hf5) (kR rfl) hP hD hS 0 12 rfl (zat (by decide) ms_0) rfl hl.1 rfl (Nat.le_of_ble_eq_true rfl) dX12_swap_8 (fun x2 u_ H locs e_ hP hD hS => ?_)
  have e_ : x2 = z_ := e_
  subst e_
  have hP : va_P G.1 vwCl (zw G MS 51 a g3 L4) H := hP
  have hD : va_D A (zw G MS 51 a g3 L4) := hD
  refine lv_if_ne (x := x2) (tgt := 16) hx hb dX12_swap_11 (by decide) (fun c6 => ?_) (fun c6 => ?_)
  ·
    have h := ite_e c6 h
    refine lv_iconst (v := -1) hx hb dX12_swap_16 (by decide) ?_
    refine lv_istore_n (lv' := [(2, .int (-1)), (0, .ref (a 0)), (1, .int p1)]) hx hb dX12_swap_17 rfl hl (by decide) rfl (fun ls hl => ?_)
    refine lv_aload_n hx hb dX12_swap_18 rfl (lv_at hl 1 rfl) ?_
    obtain ⟨z_, g8, L9, hf10, h⟩ := cb_some h
    refine x_callVi (rest := []) li_X12_399 C (rX12_lost l G H.size a fu g3 L4 z_ (g8, L9) hf10) (kR rfl) hP hD hS 0 12 rfl (zat (by decide) ms_0) rfl hl.1 rfl (Nat.le_of_ble_eq_true rfl) dX12_swap_19 (fun x7 u_ H locs e_ hP hD hS => ?_)
    have e_ : x7 = z_ := e_
    subst e_
    have hP : va_P G.1 vwCl (zw G MS 51 a g8 L9) H := hP
    have hD : va_D A (zw G MS 51 a g8 L9) := hD
    refine lv_istore_n (lv' := [(3, .int x7), (2, .int (-1)), (0, .ref (a 0)), (1, .int p1)]) hx hb dX12_swap_22 rfl hl (by decide) rfl (fun ls hl => ?_)
    refine lv_iconst (v := 0) hx hb dX12_swap_23 (by decide) ?_
    refine lv_istore (lv' := [(4, .int 0), (3, .int x7), (2, .int (-1)), (0, .ref (a 0)), (1, .int p1)]) hx hb dX12_swap_24 hl (by decide) rfl (fun ls hl => ?_)
    have lp26 : ∀ (v1 : Int32), ∀ (n : Nat) (v : Int32 × Int32 × Int32 × (Nat → Nat → Int32) × (Nat → Nat → Int64)), whileK (fun k v => fX12_swap_s26 fu v1 k v.1 v.2.1 v.2.2.1 v.2.2.2.1 v.2.2.2.2) n v = some (res, s9) → ∀ (H : Heap) (locs : List Loc) (ls : Array Slot), va_P G.1 vwCl (zw G MS 51 a (v.2.2.2.1) (v.2.2.2.2)) H → va_D A (zw G MS 51 a (v.2.2.2.1) (v.2.2.2.2)) → va_S A s.heap H locs → lv_has ls 7 [(0, .ref (a 0)), (1, .int v1), (2, .int (v.1)), (3, .int (v.2.1)), (4, .int (v.2.2.1))] → W p l e { frames := 12, cells := 0, slots := 0, locals := 250 } s m [.ref (a 0), .int p1].toArray below meth c H locs 0 0 (MQ below ((kQi G (S := Unit) (fun r' _ => r' = res) (fun _ => zw G MS 51 a s9.1 s9.2)) A) [.ref (a 0), .int p1].toArray s 0 0 A) (F0 m 26 ls []) := by
      intro v1
      refine while_ind (fun k26 ih26 v h => ?_)
      obtain ⟨v2, v3, v4, g, L⟩ := v
      intro H locs ls hP hD hS hl
      have h : fX12_swap_s26 fu v1 k26 v2 v3 v4 g L = some (res, s9) := h
      have hP : va_P G.1 vwCl (zw G MS 51 a g L) H := hP
      have hD : va_D A (zw G MS 51 a g L) := hD
      have hl : lv_has ls 7 [(0, .ref (a 0)), (1, .int v1), (2, .int v2), (3, .int v3), (4, .int v4)] := hl
      show W p l e { frames := 12, cells := 0, slots := 0, locals := 250 } s m [.ref (a 0), .int p1].toArray below meth c H locs 0 0 (MQ below ((kQi G (S := Unit) (fun r' _ => r' = res) (fun _ => zw G MS 51 a s9.1 s9.2)) A) [.ref (a 0), .int p1].toArray s 0 0 A) (F0 m 26 ls [])
      unfold fX12_swap_s26 at h
      refine lv_iload hx hb dX12_swap_26 (lv_at hl 4 rfl) ?_
      refine lv_aload_n hx hb dX12_swap_28 rfl (lv_at hl 0 rfl) ?_
      refine x_getv (v := .int (g 0 1)) (Or.inl fl_X12_335) C hP (by decide) ms_0 rfl dX12_swap_29 ?_
      refine lv_icmp_ge (x := v4) (y := (g 0 1)) (tgt := 105) hx hb dX12_swap_32 (by decide) (fun c11 => ?_) (fun c11 => ?_)
      ·
        have h := ite_t c11 h
        refine lv_iload_n hx hb dX12_swap_105 rfl (lv_at hl 2 rfl) ?_
        refine lv_iconst (v := -1) hx hb dX12_swap_106 (by decide) ?_
        have J119 : ∀ (t0 : Int32) (g : Nat → Nat → Int32) (L : Nat → Nat → Int64) (H : Heap) (locs : List Loc) (ls : Array Slot), fX12_swap_p119 fu t0 g L = some (res, s9) → va_P G.1 vwCl (zw G MS 51 a g L) H → va_D A (zw G MS 51 a g L) → va_S A s.heap H locs → lv_has ls 7 [] → W p l e { frames := 12, cells := 0, slots := 0, locals := 250 } s m [.ref (a 0), .int p1].toArray below meth c H locs 0 0 (MQ below ((kQi G (S := Unit) (fun r' _ => r' = res) (fun _ => zw G MS 51 a s9.1 s9.2)) A) [.ref (a 0), .int p1].toArray s 0 0 A) (F0 m 119 ls [.int t0]) := by
          intro t0 g L H locs ls h hP hD hS hl
          unfold fX12_swap_p119 at h
          exact y_iret C hr hlk hP hD hS h (Nat.le_of_ble_eq_true rfl) (Nat.le_of_ble_eq_true rfl) dX12_swap_119
        have J114 : ∀ (v2 : Int32) (g : Nat → Nat → Int32) (L : Nat → Nat → Int64) (H : Heap) (locs : List Loc) (ls : Array Slot), fX12_swap_p114 fu v2 g L = some (res, s9) → va_P G.1 vwCl (zw G MS 51 a g L) H → va_D A (zw G MS 51 a g L) → va_S A s.heap H locs → lv_has ls 7 [(2, .int v2)] → W p l e { frames := 12, cells := 0, slots := 0, locals := 250 } s m [.ref (a 0), .int p1].toArray below meth c H locs 0 0 (MQ below ((kQi G (S := Unit) (fun r' _ => r' = res) (fun _ => zw G MS 51 a s9.1 s9.2)) A) [.ref (a 0), .int p1].toArray s 0 0 A) (F0 m 114 ls []) := by
          intro v2 g L H locs ls h hP hD hS hl
          unfold fX12_swap_p114 at h
          refine lv_iload_n hx hb dX12_swap_114 rfl (lv_at hl 0 rfl) ?_
          refine lv_goto (tgt := 119) hx hb dX12_swap_115 (by decide) ?_
          exact J119 v2 g L H locs ls h hP hD hS (lv_sub hl [] rfl)
        refine lv_icmp_eq (x := v2) (y := (-1)) (tgt := 114) hx hb dX12_swap_107 (by decide) (fun c12 => ?_) (fun c12 => ?_)
        ·
          have h := ite_t c12 h
          exact J114 v2 g L H locs ls h hP hD hS (lv_sub hl [2] rfl)
        ·
          have h := ite_e c12 h
          refine lv_iload_n hx hb dX12_swap_110 rfl (lv_at hl 1 rfl) ?_
          refine lv_if_ne (x := v1) (tgt := 118) hx hb dX12_swap_111 (by decide) (fun c13 => ?_) (fun c13 => ?_)
          ·
            have h := ite_e c13 h
            refine lv_iload_n hx hb dX12_swap_118 rfl (lv_at hl 3 rfl) ?_
            exact J119 v3 g L H locs ls h hP hD hS (lv_sub hl [] rfl)
          ·
            have h := ite_t c13 h
            exact J114 v2 g L H locs ls h hP hD hS (lv_sub hl [2] rfl)
      ·
        have h := ite_e c11 h
        refine lv_iload hx hb dX12_swap_35 (lv_at hl 4 rfl) ?_
        refine lv_iconst (v := 1) hx hb dX12_swap_37 (by decide) ?_
        refine lv_iadd hx hb dX12_swap_38 ?_
        refine y_let h (fun x14 h => ?_)
        refine lv_istore (lv' := [(5, .int x14), (0, .ref (a 0)), (1, .int v1), (2, .int v2), (3, .int v3), (4, .int v4)]) hx hb dX12_swap_39 hl (by decide) rfl (fun ls hl => ?_)
        have lp41 : ∀ (v4 : Int32), ∀ (n : Nat) (v : Int32 × Int32 × Int32 × (Nat → Nat → Int32) × (Nat → Nat → Int64)), whileK (fun k v => fX12_swap_s41 fu k26 v1 v4 k v.1 v.2.1 v.2.2.1 v.2.2.2.1 v.2.2.2.2) n v = some (res, s9) → ∀ (H : Heap) (locs : List Loc) (ls : Array Slot), va_P G.1 vwCl (zw G MS 51 a (v.2.2.2.1) (v.2.2.2.2)) H → va_D A (zw G MS 51 a (v.2.2.2.1) (v.2.2.2.2)) → va_S A s.heap H locs → lv_has ls 7 [(0, .ref (a 0)), (1, .int v1), (2, .int (v.1)), (3, .int (v.2.1)), (4, .int v4), (5, .int (v.2.2.1))] → W p l e { frames := 12, cells := 0, slots := 0, locals := 250 } s m [.ref (a 0), .int p1].toArray below meth c H locs 0 0 (MQ below ((kQi G (S := Unit) (fun r' _ => r' = res) (fun _ => zw G MS 51 a s9.1 s9.2)) A) [.ref (a 0), .int p1].toArray s 0 0 A) (F0 m 41 ls []) := by
          intro v4
          refine while_ind (fun k41 ih41 v h => ?_)
          obtain ⟨v2, v3, v5, g, L⟩ := v
          intro H locs ls hP hD hS hl
          have h : fX12_swap_s41 fu k26 v1 v4 k41 v2 v3 v5 g L = some (res, s9) := h
          have hP : va_P G.1 vwCl (zw G MS 51 a g L) H := hP
          have hD : va_D A (zw G MS 51 a g L) := hD
          have hl : lv_has ls 7 [(0, .ref (a 0)), (1, .int v1), (2, .int v2), (3, .int v3), (4, .int v4), (5, .int v5)] := hl
          show W p l e { frames := 12, cells := 0, slots := 0, locals := 250 } s m [.ref (a 0), .int p1].toArray below meth c H locs 0 0 (MQ below ((kQi G (S := Unit) (fun r' _ => r' = res) (fun _ => zw G MS 51 a s9.1 s9.2)) A) [.ref (a 0), .int p1].toArray s 0 0 A) (F0 m 41 ls [])
          unfold fX12_swap_s41 at h
          refine lv_iload hx hb dX12_swap_41 (lv_at hl 5 rfl) ?_
          refine lv_aload_n hx hb dX12_swap_43 rfl (lv_at hl 0 rfl) ?_
          refine x_getv (v := .int (g 0 1)) (Or.inl fl_X12_335) C hP (by decide) ms_0 rfl dX12_swap_44 ?_
          refine lv_icmp_ge (x := v5) (y := (g 0 1)) (tgt := 99) hx hb dX12_swap_47 (by decide) (fun c15 => ?_) (fun c15 => ?_)
          ·
            have h := ite_t c15 h
            refine lv_iinc (v := (v4 + 1)) (lv' := [(4, .int (v4 + 1)), (0, .ref (a 0)), (1, .int v1), (2, .int v2), (3, .int v3), (5, .int v5)]) hx hb dX12_swap_99 hl (k := 4) rfl rfl (by decide) rfl (fun ls hl => ?_)
            refine lv_goto (tgt := 26) hx hb dX12_swap_102 (by decide) ?_
            exact ih26 (v2, v3, (v4 + 1), g, L) h H locs ls hP hD hS (lv_sub hl [1, 2, 3, 4, 0] rfl)
          ·
            have h := ite_e c15 h
            refine lv_aload_n hx hb dX12_swap_50 rfl (lv_at hl 0 rfl) ?_
            refine lv_iload hx hb dX12_swap_51 (lv_at hl 4 rfl) ?_
            refine lv_iload hx hb dX12_swap_53 (lv_at hl 5 rfl) ?_
            obtain ⟨z_, g17, L18, hf19, h⟩ := cb_some h
            refine x_callVv (rest := []) li_X12_453 C (rX12_swaps l G H.size a fu g L v4 v5 z_ (g17, L18) hf19) (kR rfl) hP hD hS 0 12 rfl (zat (by decide) ms_0) rfl hl.1 rfl (Nat.le_of_ble_eq_true rfl) dX12_swap_55 (fun u_ H locs e_ hP hD hS => ?_)
            have hP : va_P G.1 vwCl (zw G MS 51 a g17 L18) H := hP
            have hD : va_D A (zw G MS 51 a g17 L18) := hD
            refine lv_aload_n hx hb dX12_swap_58 rfl (lv_at hl 0 rfl) ?_
            obtain ⟨z_, g21, L22, hf23, h⟩ := cb_some h
            refine x_callVi (rest := []) li_X12_399 C (rX12_lost l G H.size a fu g17 L18 z_ (g21, L22) hf23) (kR rfl) hP hD hS 0 12 rfl (zat (by decide) ms_0) rfl hl.1 rfl (Nat.le_of_ble_eq_true rfl) dX12_swap_59 (fun x20 u_ H locs e_ hP hD hS => ?_)
            have e_ : x20 = z_ := e_
            subst e_
            have hP : va_P G.1 vwCl (zw G MS 51 a g21 L22) H := hP
            have hD : va_D A (zw G MS 51 a g21 L22) := hD
            refine lv_istore (lv' := [(6, .int x20), (0, .ref (a 0)), (1, .int v1), (2, .int v2), (3, .int v3), (4, .int v4), (5, .int v5)]) hx hb dX12_swap_62 hl (by decide) rfl (fun ls hl => ?_)
            refine lv_aload_n hx hb dX12_swap_64 rfl (lv_at hl 1 rfl) ?_
            refine lv_iload hx hb dX12_swap_65 (lv_at hl 5 rfl) ?_
            refine lv_iload hx hb dX12_swap_67 (lv_at hl 6 rfl) ?_
            obtain ⟨z_, g25, L26, hf27, h⟩ := cb_some h
            refine x_callVv (rest := []) li_X12_453 C (rX12_swaps l G H.size a fu g21 L22 v4 v5 z_ (g25, L26) hf27) (kR rfl) hP hD hS 0 12 rfl (zat (by decide) ms_0) rfl hl.1 rfl (Nat.le_of_ble_eq_true rfl) dX12_swap_69 (fun u_ H locs e_ hP hD hS => ?_)
            have hP : va_P G.1 vwCl (zw G MS 51 a g25 L26) H := hP
            have hD : va_D A (zw G MS 51 a g25 L26) := hD
            refine lv_iload hx hb dX12_swap_72 (lv_at hl 0 rfl) ?_
            refine lv_iload_n hx hb dX12_swap_74 rfl (lv_at hl 4 rfl) ?_
            have J93 : ∀ (v2 : Int32) (v3 : Int32) (v5 : Int32) (g : Nat → Nat → Int32) (L : Nat → Nat → Int64) (H : Heap) (locs : List Loc) (ls : Array Slot), fX12_swap_p93 fu k26 k41 v1 v2 v3 v4 v5 g L = some (res, s9) → va_P G.1 vwCl (zw G MS 51 a g L) H → va_D A (zw G MS 51 a g L) → va_S A s.heap H locs → lv_has ls 7 [(0, .ref (a 0)), (1, .int v1), (2, .int v2), (3, .int v3), (4, .int v4), (5, .int v5)] → W p l e { frames := 12, cells := 0, slots := 0, locals := 250 } s m [.ref (a 0), .int p1].toArray below meth c H locs 0 0 (MQ below ((kQi G (S := Unit) (fun r' _ => r' = res) (fun _ => zw G MS 51 a s9.1 s9.2)) A) [.ref (a 0), .int p1].toArray s 0 0 A) (F0 m 93 ls []) := by
              intro v2 v3 v5 g L H locs ls h hP hD hS hl
              unfold fX12_swap_p93 at h
              refine lv_iinc (v := (v5 + 1)) (lv' := [(5, .int (v5 + 1)), (0, .ref (a 0)), (1, .int v1), (2, .int v2), (3, .int v3), (4, .int v4)]) hx hb dX12_swap_93 hl (k := 5) rfl rfl (by decide) rfl (fun ls hl => ?_)
              refine lv_goto (tgt := 41) hx hb dX12_swap_96 (by decide) ?_
              exact ih41 (v2, v3, (v5 + 1), g, L) h H locs ls hP hD hS (lv_sub hl [1, 2, 3, 4, 5, 0] rfl)
            refine lv_icmp_lt (x := x20) (y := v3) (tgt := 81) hx hb dX12_swap_75 (by decide) (fun c28 => ?_) (fun c28 => ?_)
            ·
              have h := ite_t c28 h
              refine lv_bipush (v := 100) hx hb dX12_swap_81 (by decide) ?_
              refine lv_iload hx hb dX12_swap_83 (lv_at hl 5 rfl) ?_
              refine lv_imul hx hb dX12_swap_85 ?_
              refine lv_iload hx hb dX12_swap_86 (lv_at hl 6 rfl) ?_
              refine lv_iadd hx hb dX12_swap_88 ?_
              refine y_let h (fun x29 h => ?_)
              refine lv_istore_n (lv' := [(2, .int x29), (6, .int x20), (0, .ref (a 0)), (1, .int v1), (3, .int v3), (4, .int v4), (5, .int v5)]) hx hb dX12_swap_89 rfl hl (by decide) rfl (fun ls hl => ?_)
              refine lv_iload hx hb dX12_swap_90 (lv_at hl 1 rfl) ?_
              refine lv_istore_n (lv' := [(3, .int x20), (2, .int x29), (6, .int x20), (0, .ref (a 0)), (1, .int v1), (4, .int v4), (5, .int v5)]) hx hb dX12_swap_92 rfl hl (by decide) rfl (fun ls hl => ?_)
              exact J93 x29 x20 v5 g25 L26 H locs ls h hP hD hS (lv_sub hl [3, 4, 1, 0, 5, 6] rfl)
            ·
              have h := ite_e c28 h
              refine lv_goto (tgt := 93) hx hb dX12_swap_78 (by decide) ?_
              exact J93 v2 v3 v5 g25 L26 H locs ls h hP hD hS (lv_sub hl [1, 2, 3, 4, 5, 6] rfl)
        exact lp41 v4 fu (v2, v3, x14, g, L) h H locs ls hP hD hS (lv_sub hl [1, 2, 3, 4, 5, 0] rfl)
    exact lp26 p1 fu ((-1), x7, 0, g8, L9) h H locs ls hP hD hS (lv_sub hl [3, 4, 2, 1, 0] rfl)
  ·
    have h := ite_t c6 h
    refine lv_iconst (v := 0) hx hb dX12_swap_14 (by decide) ?_
    exact y_iret C hr hlk hP hD hS h (Nat.le_of_ble_eq_true rfl) (Nat.le_of_ble_eq_true rfl) dX12_swap_15
def fX12_bestOf_p86 (fu : Nat) (t0 : Int32) (g : Nat → Nat → Int32) (L : Nat → Nat → Int64) : Option ((Int32) × zS) :=
  some (t0, (g, L))
def fX12_bestOf_p61 (fu : Nat) (k17 : Int32 × Int32 × Int32 × (Nat → Nat → Int32) × (Nat → Nat → Int64) → Option ((Int32) × zS)) (v1 : Int32) (v2 : Int32) (v3 : Int32) (v4 : Int32) (v5 : Int32) (v6 : Int32) (v7 : Int32) (g : Nat → Nat → Int32) (L : Nat → Nat → Int64) : Option ((Int32) × zS) :=
  k17 (v5, v6, (v7 + 1), g, L)
def fX12_bestOf_p53 (fu : Nat) (k17 : Int32 × Int32 × Int32 × (Nat → Nat → Int32) × (Nat → Nat → Int64) → Option ((Int32) × zS)) (v1 : Int32) (v2 : Int32) (v3 : Int32) (v4 : Int32) (v7 : Int32) (v8 : Int32) (g : Nat → Nat → Int32) (L : Nat → Nat → Int64) : Option ((Int32) × zS) :=
  fX12_bestOf_p61 fu k17 v1 v2 v3 v4 v7 v8 v7 g L
def fX12_bestOf_s17 (fu : Nat) (v1 : Int32) (v2 : Int32) (v3 : Int32) (v4 : Int32) (k17 : Int32 × Int32 × Int32 × (Nat → Nat → Int32) × (Nat → Nat → Int64) → Option ((Int32) × zS)) (v5 : Int32) (v6 : Int32) (v7 : Int32) (g : Nat → Nat → Int32) (L : Nat → Nat → Int64) : Option ((Int32) × zS) :=
  if v2 < (v7 : Int32) then ck v1 48 (sti g 12 (Int32.toNatClampNeg v1) v4 (fun g3 =>
  if v3 = 0 then fX12_bestOf_p86 fu v5 g3 L
  else fX12_bestOf_p86 fu v6 g3 L))
  else ck v1 48 (sti g 12 (Int32.toNatClampNeg v1) v7 (fun g5 =>
  cb (fX12_lost fu g5 L) (fun x6 g7 L8 =>
  if (v5 : Int32) = (-1) then fX12_bestOf_p53 fu k17 v1 v2 v3 v4 v7 x6 g7 L8
  else if (x6 : Int32) < v6 then fX12_bestOf_p53 fu k17 v1 v2 v3 v4 v7 x6 g7 L8
  else fX12_bestOf_p61 fu k17 v1 v2 v3 v4 v5 v6 v7 g7 L8)))
def fX12_bestOf_l17 (fu : Nat) (v1 : Int32) (v2 : Int32) (v3 : Int32) (v4 : Int32) (v5 : Int32) (v6 : Int32) (v7 : Int32) (g : Nat → Nat → Int32) (L : Nat → Nat → Int64) : Option ((Int32) × zS) :=
  whileK (fun k v => fX12_bestOf_s17 fu v1 v2 v3 v4 k v.1 v.2.1 v.2.2.1 v.2.2.2.1 v.2.2.2.2) fu (v5, v6, v7, g, L)
def fX12_bestOf (fu : Nat) (p1 : Int32) (p2 : Int32) (p3 : Int32) (g : Nat → Nat → Int32) (L : Nat → Nat → Int64) : Option ((Int32) × zS) :=
  ck p1 48 (
  lti (g 12 (Int32.toNatClampNeg p1)) (fun x1 =>
  fX12_bestOf_l17 fu p1 p2 p3 x1 (-1) 0 0 g L))
set_option maxHeartbeats 4000000 in
set_option maxRecDepth 100000 in
theorem rX12_bestOf (l : Launch) (G : kG) (sz : Nat) (a : Nat → Nat) (fu : Nat) (g : Nat → Nat → Int32) (L : Nat → Nat → Int64) (p1 : Int32) (p2 : Int32) (p3 : Int32) (res : Int32) (s9 : zS) (h : fX12_bestOf fu p1 p2 p3 g L = some (res, s9)) : kM l yX12_bestOf cX12_bestOf 9 (some .int) { frames := 12, cells := 0, slots := 0, locals := 250 } G [.ref (a 0), .int p1, .int p2, .int p3] (zw G MS 51 a g L) sz (kQi G (S := Unit) (fun r' _ => r' = res) (fun _ => zw G MS 51 a s9.1 s9.2)) := by
  refine kM.of (by decide) (Nat.le_of_ble_eq_true rfl) ?_
  intro p e s m below meth c A ls H C hr hlk hnm hP hD hS hl
  have C : kC G p s m c cX12_bestOf 9 RX12 A := C
  have hx := C.1
  have hb := C.2.1
  have hl : lv_has ls 9 [(0, .ref (a 0)), (1, .int p1), (2, .int p2), (3, .int p3)] := hl
  obtain ⟨locs, hlocs⟩ : ∃ q : List Loc, q = [] := ⟨_, rfl⟩
  rw [← hlocs] at hS
  rw [← hlocs]
  unfold fX12_bestOf at h
  refine lv_aload_n hx hb dX12_bestOf_0 rfl (lv_at hl 0 rfl) ?_
  refine x_getr (Or.inl fl_X12_50) C hP (by decide) ms_0 rfl dX12_bestOf_1 ?_
  refine lv_iload_n hx hb dX12_bestOf_4 rfl (lv_at hl 1 rfl) ?_
  refine y_ald C hP (by decide) ms_12 dX12_bestOf_5 h (fun h => ?_)
  refine y_let h (fun x1 h => ?_)
  refine lv_istore (lv' := [(4, .int x1), (0, .ref (a 0)), (1, .int p1), (2, .int p2), (3, .int p3)]) hx hb dX12_bestOf_6 hl (by decide) rfl (fun ls hl => ?_)
  refine lv_iconst (v := -1) hx hb dX12_bestOf_8 (by decide) ?_
  refine lv_istore (lv' := [(5, .int (-1)), (4, .int x1), (0, .ref (a 0)), (1, .int p1), (2, .int p2), (3, .int p3)]) hx hb dX12_bestOf_9 hl (by decide) rfl (fun ls hl => ?_)
  refine lv_iconst (v := 0) hx hb dX12_bestOf_11 (by decide) ?_
  refine lv_istore (lv' := [(6, .int 0), (5, .int (-1)), (4, .int x1), (0, .ref (a 0)), (1, .int p1), (2, .int p2), (3, .int p3)]) hx hb dX12_bestOf_12 hl (by decide) rfl (fun ls hl => ?_)
  refine lv_iconst (v := 0) hx hb dX12_bestOf_14 (by decide) ?_
  refine lv_istore (lv' := [(7, .int 0), (6, .int 0), (5, .int (-1)), (4, .int x1), (0, .ref (a 0)), (1, .int p1), (2, .int p2), (3, .int p3)]) hx hb dX12_bestOf_15 hl (by decide) rfl (fun ls hl => ?_)
  have lp17 : ∀ (v1 : Int32) (v2 : Int32) (v3 : Int32) (v4 : Int32), ∀ (n : Nat) (v : Int32 × Int32 × Int32 × (Nat → Nat → Int32) × (Nat → Nat → Int64)), whileK (fun k v => fX12_bestOf_s17 fu v1 v2 v3 v4 k v.1 v.2.1 v.2.2.1 v.2.2.2.1 v.2.2.2.2) n v = some (res, s9) → ∀ (H : Heap) (locs : List Loc) (ls : Array Slot), va_P G.1 vwCl (zw G MS 51 a (v.2.2.2.1) (v.2.2.2.2)) H → va_D A (zw G MS 51 a (v.2.2.2.1) (v.2.2.2.2)) → va_S A s.heap H locs → lv_has ls 9 [(0, .ref (a 0)), (1, .int v1), (2, .int v2), (3, .int v3), (4, .int v4), (5, .int (v.1)), (6, .int (v.2.1)), (7, .int (v.2.2.1))] → W p l e { frames := 12, cells := 0, slots := 0, locals := 250 } s m [.ref (a 0), .int p1, .int p2, .int p3].toArray below meth c H locs 0 0 (MQ below ((kQi G (S := Unit) (fun r' _ => r' = res) (fun _ => zw G MS 51 a s9.1 s9.2)) A) [.ref (a 0), .int p1, .int p2, .int p3].toArray s 0 0 A) (F0 m 17 ls []) := by
    intro v1 v2 v3 v4
    refine while_ind (fun k17 ih17 v h => ?_)
    obtain ⟨v5, v6, v7, g, L⟩ := v
    intro H locs ls hP hD hS hl
    have h : fX12_bestOf_s17 fu v1 v2 v3 v4 k17 v5 v6 v7 g L = some (res, s9) := h
    have hP : va_P G.1 vwCl (zw G MS 51 a g L) H := hP
    have hD : va_D A (zw G MS 51 a g L) := hD
    have hl : lv_has ls 9 [(0, .ref (a 0)), (1, .int v1), (2, .int v2), (3, .int v3), (4, .int v4), (5, .int v5), (6, .int v6), (7, .int v7)] := hl
    show W p l e { frames := 12, cells := 0, slots := 0, locals := 250 } s m [.ref (a 0), .int p1, .int p2, .int p3].toArray below meth c H locs 0 0 (MQ below ((kQi G (S := Unit) (fun r' _ => r' = res) (fun _ => zw G MS 51 a s9.1 s9.2)) A) [.ref (a 0), .int p1, .int p2, .int p3].toArray s 0 0 A) (F0 m 17 ls [])
    unfold fX12_bestOf_s17 at h
    refine lv_iload hx hb dX12_bestOf_17 (lv_at hl 7 rfl) ?_
    refine lv_iload_n hx hb dX12_bestOf_19 rfl (lv_at hl 2 rfl) ?_
    refine lv_icmp_gt (x := v7) (y := v2) (tgt := 67) hx hb dX12_bestOf_20 (by decide) (fun c2 => ?_) (fun c2 => ?_)
    ·
      have h := ite_t c2 h
      refine lv_aload_n hx hb dX12_bestOf_67 rfl (lv_at hl 0 rfl) ?_
      refine x_getr (Or.inl fl_X12_50) C hP (by decide) ms_0 rfl dX12_bestOf_68 ?_
      refine lv_iload_n hx hb dX12_bestOf_71 rfl (lv_at hl 1 rfl) ?_
      refine lv_iload hx hb dX12_bestOf_72 (lv_at hl 4 rfl) ?_
      refine y_ast C hP hD hS (by decide) ms_12 dX12_bestOf_74 h (fun g3 H locs h hP hD hS => ?_)
      refine lv_iload_n hx hb dX12_bestOf_75 rfl (lv_at hl 3 rfl) ?_
      have J86 : ∀ (t0 : Int32) (g : Nat → Nat → Int32) (L : Nat → Nat → Int64) (H : Heap) (locs : List Loc) (ls : Array Slot), fX12_bestOf_p86 fu t0 g L = some (res, s9) → va_P G.1 vwCl (zw G MS 51 a g L) H → va_D A (zw G MS 51 a g L) → va_S A s.heap H locs → lv_has ls 9 [] → W p l e { frames := 12, cells := 0, slots := 0, locals := 250 } s m [.ref (a 0), .int p1, .int p2, .int p3].toArray below meth c H locs 0 0 (MQ below ((kQi G (S := Unit) (fun r' _ => r' = res) (fun _ => zw G MS 51 a s9.1 s9.2)) A) [.ref (a 0), .int p1, .int p2, .int p3].toArray s 0 0 A) (F0 m 86 ls [.int t0]) := by
        intro t0 g L H locs ls h hP hD hS hl
        unfold fX12_bestOf_p86 at h
        exact y_iret C hr hlk hP hD hS h (Nat.le_of_ble_eq_true rfl) (Nat.le_of_ble_eq_true rfl) dX12_bestOf_86
      refine lv_if_ne (x := v3) (tgt := 84) hx hb dX12_bestOf_76 (by decide) (fun c4 => ?_) (fun c4 => ?_)
      ·
        have h := ite_e c4 h
        refine lv_iload hx hb dX12_bestOf_84 (lv_at hl 6 rfl) ?_
        exact J86 v6 g3 L H locs ls h hP hD hS (lv_sub hl [] rfl)
      ·
        have h := ite_t c4 h
        refine lv_iload hx hb dX12_bestOf_79 (lv_at hl 5 rfl) ?_
        refine lv_goto (tgt := 86) hx hb dX12_bestOf_81 (by decide) ?_
        exact J86 v5 g3 L H locs ls h hP hD hS (lv_sub hl [] rfl)
    ·
      have h := ite_e c2 h
      refine lv_aload_n hx hb dX12_bestOf_23 rfl (lv_at hl 0 rfl) ?_
      refine x_getr (Or.inl fl_X12_50) C hP (by decide) ms_0 rfl dX12_bestOf_24 ?_
      refine lv_iload_n hx hb dX12_bestOf_27 rfl (lv_at hl 1 rfl) ?_
      refine lv_iload hx hb dX12_bestOf_28 (lv_at hl 7 rfl) ?_
      refine y_ast C hP hD hS (by decide) ms_12 dX12_bestOf_30 h (fun g5 H locs h hP hD hS => ?_)
      refine lv_aload_n hx hb dX12_bestOf_31 rfl (lv_at hl 0 rfl) ?_
      obtain ⟨z_, g7, L8, hf9, h⟩ := cb_some h
      refine x_callVi (rest := []) li_X12_399 C (rX12_lost l G H.size a fu g5 L z_ (g7, L8) hf9) (kR rfl) hP hD hS 0 12 rfl (zat (by decide) ms_0) rfl hl.1 rfl (Nat.le_of_ble_eq_true rfl) dX12_bestOf_32 (fun x6 u_ H locs e_ hP hD hS => ?_)
      have e_ : x6 = z_ := e_
      subst e_
      have hP : va_P G.1 vwCl (zw G MS 51 a g7 L8) H := hP
      have hD : va_D A (zw G MS 51 a g7 L8) := hD
      refine lv_istore (lv' := [(8, .int x6), (0, .ref (a 0)), (1, .int v1), (2, .int v2), (3, .int v3), (4, .int v4), (5, .int v5), (6, .int v6), (7, .int v7)]) hx hb dX12_bestOf_35 hl (by decide) rfl (fun ls hl => ?_)
      refine lv_iload hx hb dX12_bestOf_37 (lv_at hl 6 rfl) ?_
      refine lv_iconst (v := -1) hx hb dX12_bestOf_39 (by decide) ?_
      have J61 : ∀ (v5 : Int32) (v6 : Int32) (v7 : Int32) (g : Nat → Nat → Int32) (L : Nat → Nat → Int64) (H : Heap) (locs : List Loc) (ls : Array Slot), fX12_bestOf_p61 fu k17 v1 v2 v3 v4 v5 v6 v7 g L = some (res, s9) → va_P G.1 vwCl (zw G MS 51 a g L) H → va_D A (zw G MS 51 a g L) → va_S A s.heap H locs → lv_has ls 9 [(0, .ref (a 0)), (1, .int v1), (2, .int v2), (3, .int v3), (4, .int v4), (5, .int v5), (6, .int v6), (7, .int v7)] → W p l e { frames := 12, cells := 0, slots := 0, locals := 250 } s m [.ref (a 0), .int p1, .int p2, .int p3].toArray below meth c H locs 0 0 (MQ below ((kQi G (S := Unit) (fun r' _ => r' = res) (fun _ => zw G MS 51 a s9.1 s9.2)) A) [.ref (a 0), .int p1, .int p2, .int p3].toArray s 0 0 A) (F0 m 61 ls []) := by
        intro v5 v6 v7 g L H locs ls h hP hD hS hl
        unfold fX12_bestOf_p61 at h
        refine lv_iinc (v := (v7 + 1)) (lv' := [(7, .int (v7 + 1)), (0, .ref (a 0)), (1, .int v1), (2, .int v2), (3, .int v3), (4, .int v4), (5, .int v5), (6, .int v6)]) hx hb dX12_bestOf_61 hl (k := 7) rfl rfl (by decide) rfl (fun ls hl => ?_)
        refine lv_goto (tgt := 17) hx hb dX12_bestOf_64 (by decide) ?_
        exact ih17 (v5, v6, (v7 + 1), g, L) h H locs ls hP hD hS (lv_sub hl [1, 2, 3, 4, 5, 6, 7, 0] rfl)
      have J53 : ∀ (v7 : Int32) (v8 : Int32) (g : Nat → Nat → Int32) (L : Nat → Nat → Int64) (H : Heap) (locs : List Loc) (ls : Array Slot), fX12_bestOf_p53 fu k17 v1 v2 v3 v4 v7 v8 g L = some (res, s9) → va_P G.1 vwCl (zw G MS 51 a g L) H → va_D A (zw G MS 51 a g L) → va_S A s.heap H locs → lv_has ls 9 [(0, .ref (a 0)), (1, .int v1), (2, .int v2), (3, .int v3), (4, .int v4), (7, .int v7), (8, .int v8)] → W p l e { frames := 12, cells := 0, slots := 0, locals := 250 } s m [.ref (a 0), .int p1, .int p2, .int p3].toArray below meth c H locs 0 0 (MQ below ((kQi G (S := Unit) (fun r' _ => r' = res) (fun _ => zw G MS 51 a s9.1 s9.2)) A) [.ref (a 0), .int p1, .int p2, .int p3].toArray s 0 0 A) (F0 m 53 ls []) := by
        intro v7 v8 g L H locs ls h hP hD hS hl
        unfold fX12_bestOf_p53 at h
        refine lv_iload hx hb dX12_bestOf_53 (lv_at hl 5 rfl) ?_
        refine lv_istore (lv' := [(5, .int v7), (0, .ref (a 0)), (1, .int v1), (2, .int v2), (3, .int v3), (4, .int v4), (7, .int v7), (8, .int v8)]) hx hb dX12_bestOf_55 hl (by decide) rfl (fun ls hl => ?_)
        refine lv_iload hx hb dX12_bestOf_57 (lv_at hl 7 rfl) ?_
        refine lv_istore (lv' := [(6, .int v8), (5, .int v7), (0, .ref (a 0)), (1, .int v1), (2, .int v2), (3, .int v3), (4, .int v4), (7, .int v7), (8, .int v8)]) hx hb dX12_bestOf_59 hl (by decide) rfl (fun ls hl => ?_)
        exact J61 v7 v8 v7 g L H locs ls h hP hD hS (lv_sub hl [2, 3, 4, 5, 6, 1, 0, 7] rfl)
      refine lv_icmp_eq (x := v5) (y := (-1)) (tgt := 53) hx hb dX12_bestOf_40 (by decide) (fun c10 => ?_) (fun c10 => ?_)
      ·
        have h := ite_t c10 h
        exact J53 v7 x6 g7 L8 H locs ls h hP hD hS (lv_sub hl [1, 2, 3, 4, 5, 8, 0] rfl)
      ·
        have h := ite_e c10 h
        refine lv_iload hx hb dX12_bestOf_43 (lv_at hl 0 rfl) ?_
        refine lv_iload hx hb dX12_bestOf_45 (lv_at hl 7 rfl) ?_
        refine lv_icmp_lt (x := x6) (y := v6) (tgt := 53) hx hb dX12_bestOf_47 (by decide) (fun c11 => ?_) (fun c11 => ?_)
        ·
          have h := ite_t c11 h
          exact J53 v7 x6 g7 L8 H locs ls h hP hD hS (lv_sub hl [1, 2, 3, 4, 5, 8, 0] rfl)
        ·
          have h := ite_e c11 h
          refine lv_goto (tgt := 61) hx hb dX12_bestOf_50 (by decide) ?_
          exact J61 v5 v6 v7 g7 L8 H locs ls h hP hD hS (lv_sub hl [1, 2, 3, 4, 5, 6, 7, 8] rfl)
  exact lp17 p1 p2 p3 x1 fu ((-1), 0, 0, g, L) h H locs ls hP hD hS (lv_sub hl [4, 5, 6, 7, 3, 2, 1, 0] rfl)
def fX12_room_p37 (fu : Nat) (t0 : Int32) (g : Nat → Nat → Int32) (L : Nat → Nat → Int64) : Option ((Int32) × zS) :=
  some (t0, (g, L))
def fX12_room_p36 (fu : Nat) (g : Nat → Nat → Int32) (L : Nat → Nat → Int64) : Option ((Int32) × zS) :=
  fX12_room_p37 fu 0 g L
def fX12_room (fu : Nat) (p1 : Int32) (p2 : Int32) (g : Nat → Nat → Int32) (L : Nat → Nat → Int64) : Option ((Int32) × zS) :=
  sti g 0 0 0 (fun g1 =>
  cb (fX12_isLesson fu p1 g1 L) (fun x2 g3 L4 =>
  if x2 = 0 then fX12_room_p36 fu g3 L4
  else cb (fX12_isWhat fu p2 1 g3 L4) (fun x7 g8 L9 =>
  if x7 = 0 then fX12_room_p36 fu g8 L9
  else cb (fX12_bestOf fu (24 + p1) 9 p2 g8 L9) (fun x12 g13 L14 =>
  fX12_room_p37 fu x12 g13 L14))))
set_option maxHeartbeats 4000000 in
set_option maxRecDepth 100000 in
theorem rX12_room (l : Launch) (G : kG) (sz : Nat) (a : Nat → Nat) (fu : Nat) (g : Nat → Nat → Int32) (L : Nat → Nat → Int64) (p1 : Int32) (p2 : Int32) (res : Int32) (s9 : zS) (h : fX12_room fu p1 p2 g L = some (res, s9)) : kM l yX12_room cX12_room 3 (some .int) { frames := 13, cells := 0, slots := 0, locals := 278 } G [.ref (a 0), .int p1, .int p2] (zw G MS 51 a g L) sz (kQi G (S := Unit) (fun r' _ => r' = res) (fun _ => zw G MS 51 a s9.1 s9.2)) := by
  refine kM.of (by decide) (Nat.le_of_ble_eq_true rfl) ?_
  intro p e s m below meth c A ls H C hr hlk hnm hP hD hS hl
  have C : kC G p s m c cX12_room 3 RX12 A := C
  have hx := C.1
  have hb := C.2.1
  have hl : lv_has ls 3 [(0, .ref (a 0)), (1, .int p1), (2, .int p2)] := hl
  obtain ⟨locs, hlocs⟩ : ∃ q : List Loc, q = [] := ⟨_, rfl⟩
  rw [← hlocs] at hS
  rw [← hlocs]
  unfold fX12_room at h
  refine lv_aload_n hx hb dX12_room_0 rfl (lv_at hl 0 rfl) ?_
  refine lv_iconst (v := 0) hx hb dX12_room_1 (by decide) ?_
  refine y_puti (Or.inl fl_X12_177) ft_X12_0 C hP hD hS (by decide) ms_0 rfl rfl rfl dX12_room_2 h (fun g1 H locs h hP hD hS => ?_)
  refine lv_aload_n hx hb dX12_room_5 rfl (lv_at hl 0 rfl) ?_
  refine lv_iload_n hx hb dX12_room_6 rfl (lv_at hl 1 rfl) ?_
  obtain ⟨z_, g3, L4, hf5, h⟩ := cb_some h
  refine x_callVi (rest := []) li_X12_402 C (rX12_isLesson l G H.size a fu g1 L p1 z_ (g3, L4) hf5) (kR rfl) hP hD hS 0 12 rfl (zat (by decide) ms_0) rfl hl.1 rfl (Nat.le_of_ble_eq_true rfl) dX12_room_7 (fun x2 u_ H locs e_ hP hD hS => ?_)
  have e_ : x2 = z_ := e_
  subst e_
  have hP : va_P G.1 vwCl (zw G MS 51 a g3 L4) H := hP
  have hD : va_D A (zw G MS 51 a g3 L4) := hD
  have J37 : ∀ (t0 : Int32) (g : Nat → Nat → Int32) (L : Nat → Nat → Int64) (H : Heap) (locs : List Loc) (ls : Array Slot), fX12_room_p37 fu t0 g L = some (res, s9) → va_P G.1 vwCl (zw G MS 51 a g L) H → va_D A (zw G MS 51 a g L) → va_S A s.heap H locs → lv_has ls 3 [] → W p l e { frames := 13, cells := 0, slots := 0, locals := 278 } s m [.ref (a 0), .int p1, .int p2].toArray below meth c H locs 0 0 (MQ below ((kQi G (S := Unit) (fun r' _ => r' = res) (fun _ => zw G MS 51 a s9.1 s9.2)) A) [.ref (a 0), .int p1, .int p2].toArray s 0 0 A) (F0 m 37 ls [.int t0]) := by
    intro t0 g L H locs ls h hP hD hS hl
    unfold fX12_room_p37 at h
    exact y_iret C hr hlk hP hD hS h (Nat.le_of_ble_eq_true rfl) (Nat.le_of_ble_eq_true rfl) dX12_room_37
  have J36 : ∀ (g : Nat → Nat → Int32) (L : Nat → Nat → Int64) (H : Heap) (locs : List Loc) (ls : Array Slot), fX12_room_p36 fu g L = some (res, s9) → va_P G.1 vwCl (zw G MS 51 a g L) H → va_D A (zw G MS 51 a g L) → va_S A s.heap H locs → lv_has ls 3 [] → W p l e { frames := 13, cells := 0, slots := 0, locals := 278 } s m [.ref (a 0), .int p1, .int p2].toArray below meth c H locs 0 0 (MQ below ((kQi G (S := Unit) (fun r' _ => r' = res) (fun _ => zw G MS 51 a s9.1 s9.2)) A) [.ref (a 0), .int p1, .int p2].toArray s 0 0 A) (F0 m 36 ls []) := by
    intro g L H locs ls h hP hD hS hl
    unfold fX12_room_p36 at h
    refine lv_iconst (v := 0) hx hb dX12_room_36 (by decide) ?_
    exact J37 0 g L H locs ls h hP hD hS (lv_sub hl [] rfl)
  refine lv_if_eq (x := x2) (tgt := 36) hx hb dX12_room_10 (by decide) (fun c6 => ?_) (fun c6 => ?_)
  ·
    have h := ite_t c6 h
    exact J36 g3 L4 H locs ls h hP hD hS (lv_sub hl [] rfl)
  ·
    have h := ite_e c6 h
    refine lv_aload_n hx hb dX12_room_13 rfl (lv_at hl 0 rfl) ?_
    refine lv_iload_n hx hb dX12_room_14 rfl (lv_at hl 2 rfl) ?_
    refine lv_iconst (v := 1) hx hb dX12_room_15 (by decide) ?_
    obtain ⟨z_, g8, L9, hf10, h⟩ := cb_some h
    refine x_callVi (rest := []) li_X12_405 C (rX12_isWhat l G H.size a fu g3 L4 p2 1 z_ (g8, L9) hf10) (kR rfl) hP hD hS 0 12 rfl (zat (by decide) ms_0) rfl hl.1 rfl (Nat.le_of_ble_eq_true rfl) dX12_room_16 (fun x7 u_ H locs e_ hP hD hS => ?_)
    have e_ : x7 = z_ := e_
    subst e_
    have hP : va_P G.1 vwCl (zw G MS 51 a g8 L9) H := hP
    have hD : va_D A (zw G MS 51 a g8 L9) := hD
    refine lv_if_eq (x := x7) (tgt := 36) hx hb dX12_room_19 (by decide) (fun c11 => ?_) (fun c11 => ?_)
    ·
      have h := ite_t c11 h
      exact J36 g8 L9 H locs ls h hP hD hS (lv_sub hl [] rfl)
    ·
      have h := ite_e c11 h
      refine lv_aload_n hx hb dX12_room_22 rfl (lv_at hl 0 rfl) ?_
      refine lv_bipush (v := 24) hx hb dX12_room_23 (by decide) ?_
      refine lv_iload_n hx hb dX12_room_25 rfl (lv_at hl 1 rfl) ?_
      refine lv_iadd hx hb dX12_room_26 ?_
      refine lv_bipush (v := 9) hx hb dX12_room_27 (by decide) ?_
      refine lv_iload_n hx hb dX12_room_29 rfl (lv_at hl 2 rfl) ?_
      obtain ⟨z_, g13, L14, hf15, h⟩ := cb_some h
      refine x_callVi (rest := []) li_X12_456 C (rX12_bestOf l G H.size a fu g8 L9 (24 + p1) 9 p2 z_ (g13, L14) hf15) (kR rfl) hP hD hS 0 12 rfl (zat (by decide) ms_0) rfl hl.1 rfl (Nat.le_of_ble_eq_true rfl) dX12_room_30 (fun x12 u_ H locs e_ hP hD hS => ?_)
      have e_ : x12 = z_ := e_
      subst e_
      have hP : va_P G.1 vwCl (zw G MS 51 a g13 L14) H := hP
      have hD : va_D A (zw G MS 51 a g13 L14) := hD
      refine lv_goto (tgt := 37) hx hb dX12_room_33 (by decide) ?_
      exact J37 x12 g13 L14 H locs ls h hP hD hS (lv_sub hl [] rfl)
def fX12_limit_p37 (fu : Nat) (t0 : Int32) (g : Nat → Nat → Int32) (L : Nat → Nat → Int64) : Option ((Int32) × zS) :=
  some (t0, (g, L))
def fX12_limit_p36 (fu : Nat) (g : Nat → Nat → Int32) (L : Nat → Nat → Int64) : Option ((Int32) × zS) :=
  fX12_limit_p37 fu 0 g L
def fX12_limit (fu : Nat) (p1 : Int32) (p2 : Int32) (g : Nat → Nat → Int32) (L : Nat → Nat → Int64) : Option ((Int32) × zS) :=
  sti g 0 0 0 (fun g1 =>
  cb (fX12_isLesson fu p1 g1 L) (fun x2 g3 L4 =>
  if x2 = 0 then fX12_limit_p36 fu g3 L4
  else cb (fX12_isWhat fu p2 1 g3 L4) (fun x7 g8 L9 =>
  if x7 = 0 then fX12_limit_p36 fu g8 L9
  else cb (fX12_bestOf fu (36 + p1) 99 p2 g8 L9) (fun x12 g13 L14 =>
  fX12_limit_p37 fu x12 g13 L14))))
set_option maxHeartbeats 4000000 in
set_option maxRecDepth 100000 in
theorem rX12_limit (l : Launch) (G : kG) (sz : Nat) (a : Nat → Nat) (fu : Nat) (g : Nat → Nat → Int32) (L : Nat → Nat → Int64) (p1 : Int32) (p2 : Int32) (res : Int32) (s9 : zS) (h : fX12_limit fu p1 p2 g L = some (res, s9)) : kM l yX12_limit cX12_limit 3 (some .int) { frames := 13, cells := 0, slots := 0, locals := 278 } G [.ref (a 0), .int p1, .int p2] (zw G MS 51 a g L) sz (kQi G (S := Unit) (fun r' _ => r' = res) (fun _ => zw G MS 51 a s9.1 s9.2)) := by
  refine kM.of (by decide) (Nat.le_of_ble_eq_true rfl) ?_
  intro p e s m below meth c A ls H C hr hlk hnm hP hD hS hl
  have C : kC G p s m c cX12_limit 3 RX12 A := C
  have hx := C.1
  have hb := C.2.1
  have hl : lv_has ls 3 [(0, .ref (a 0)), (1, .int p1), (2, .int p2)] := hl
  obtain ⟨locs, hlocs⟩ : ∃ q : List Loc, q = [] := ⟨_, rfl⟩
  rw [← hlocs] at hS
  rw [← hlocs]
  unfold fX12_limit at h
  refine lv_aload_n hx hb dX12_limit_0 rfl (lv_at hl 0 rfl) ?_
  refine lv_iconst (v := 0) hx hb dX12_limit_1 (by decide) ?_
  refine y_puti (Or.inl fl_X12_177) ft_X12_0 C hP hD hS (by decide) ms_0 rfl rfl rfl dX12_limit_2 h (fun g1 H locs h hP hD hS => ?_)
  refine lv_aload_n hx hb dX12_limit_5 rfl (lv_at hl 0 rfl) ?_
  refine lv_iload_n hx hb dX12_limit_6 rfl (lv_at hl 1 rfl) ?_
  obtain ⟨z_, g3, L4, hf5, h⟩ := cb_some h
  refine x_callVi (rest := []) li_X12_402 C (rX12_isLesson l G H.size a fu g1 L p1 z_ (g3, L4) hf5) (kR rfl) hP hD hS 0 12 rfl (zat (by decide) ms_0) rfl hl.1 rfl (Nat.le_of_ble_eq_true rfl) dX12_limit_7 (fun x2 u_ H locs e_ hP hD hS => ?_)
  have e_ : x2 = z_ := e_
  subst e_
  have hP : va_P G.1 vwCl (zw G MS 51 a g3 L4) H := hP
  have hD : va_D A (zw G MS 51 a g3 L4) := hD
  have J37 : ∀ (t0 : Int32) (g : Nat → Nat → Int32) (L : Nat → Nat → Int64) (H : Heap) (locs : List Loc) (ls : Array Slot), fX12_limit_p37 fu t0 g L = some (res, s9) → va_P G.1 vwCl (zw G MS 51 a g L) H → va_D A (zw G MS 51 a g L) → va_S A s.heap H locs → lv_has ls 3 [] → W p l e { frames := 13, cells := 0, slots := 0, locals := 278 } s m [.ref (a 0), .int p1, .int p2].toArray below meth c H locs 0 0 (MQ below ((kQi G (S := Unit) (fun r' _ => r' = res) (fun _ => zw G MS 51 a s9.1 s9.2)) A) [.ref (a 0), .int p1, .int p2].toArray s 0 0 A) (F0 m 37 ls [.int t0]) := by
    intro t0 g L H locs ls h hP hD hS hl
    unfold fX12_limit_p37 at h
    exact y_iret C hr hlk hP hD hS h (Nat.le_of_ble_eq_true rfl) (Nat.le_of_ble_eq_true rfl) dX12_limit_37
  have J36 : ∀ (g : Nat → Nat → Int32) (L : Nat → Nat → Int64) (H : Heap) (locs : List Loc) (ls : Array Slot), fX12_limit_p36 fu g L = some (res, s9) → va_P G.1 vwCl (zw G MS 51 a g L) H → va_D A (zw G MS 51 a g L) → va_S A s.heap H locs → lv_has ls 3 [] → W p l e { frames := 13, cells := 0, slots := 0, locals := 278 } s m [.ref (a 0), .int p1, .int p2].toArray below meth c H locs 0 0 (MQ below ((kQi G (S := Unit) (fun r' _ => r' = res) (fun _ => zw G MS 51 a s9.1 s9.2)) A) [.ref (a 0), .int p1, .int p2].toArray s 0 0 A) (F0 m 36 ls []) := by
    intro g L H locs ls h hP hD hS hl
    unfold fX12_limit_p36 at h
    refine lv_iconst (v := 0) hx hb dX12_limit_36 (by decide) ?_
    exact J37 0 g L H locs ls h hP hD hS (lv_sub hl [] rfl)
  refine lv_if_eq (x := x2) (tgt := 36) hx hb dX12_limit_10 (by decide) (fun c6 => ?_) (fun c6 => ?_)
  ·
    have h := ite_t c6 h
    exact J36 g3 L4 H locs ls h hP hD hS (lv_sub hl [] rfl)
  ·
    have h := ite_e c6 h
    refine lv_aload_n hx hb dX12_limit_13 rfl (lv_at hl 0 rfl) ?_
    refine lv_iload_n hx hb dX12_limit_14 rfl (lv_at hl 2 rfl) ?_
    refine lv_iconst (v := 1) hx hb dX12_limit_15 (by decide) ?_
    obtain ⟨z_, g8, L9, hf10, h⟩ := cb_some h
    refine x_callVi (rest := []) li_X12_405 C (rX12_isWhat l G H.size a fu g3 L4 p2 1 z_ (g8, L9) hf10) (kR rfl) hP hD hS 0 12 rfl (zat (by decide) ms_0) rfl hl.1 rfl (Nat.le_of_ble_eq_true rfl) dX12_limit_16 (fun x7 u_ H locs e_ hP hD hS => ?_)
    have e_ : x7 = z_ := e_
    subst e_
    have hP : va_P G.1 vwCl (zw G MS 51 a g8 L9) H := hP
    have hD : va_D A (zw G MS 51 a g8 L9) := hD
    refine lv_if_eq (x := x7) (tgt := 36) hx hb dX12_limit_19 (by decide) (fun c11 => ?_) (fun c11 => ?_)
    ·
      have h := ite_t c11 h
      exact J36 g8 L9 H locs ls h hP hD hS (lv_sub hl [] rfl)
    ·
      have h := ite_e c11 h
      refine lv_aload_n hx hb dX12_limit_22 rfl (lv_at hl 0 rfl) ?_
      refine lv_bipush (v := 36) hx hb dX12_limit_23 (by decide) ?_
      refine lv_iload_n hx hb dX12_limit_25 rfl (lv_at hl 1 rfl) ?_
      refine lv_iadd hx hb dX12_limit_26 ?_
      refine lv_bipush (v := 99) hx hb dX12_limit_27 (by decide) ?_
      refine lv_iload_n hx hb dX12_limit_29 rfl (lv_at hl 2 rfl) ?_
      obtain ⟨z_, g13, L14, hf15, h⟩ := cb_some h
      refine x_callVi (rest := []) li_X12_456 C (rX12_bestOf l G H.size a fu g8 L9 (36 + p1) 99 p2 z_ (g13, L14) hf15) (kR rfl) hP hD hS 0 12 rfl (zat (by decide) ms_0) rfl hl.1 rfl (Nat.le_of_ble_eq_true rfl) dX12_limit_30 (fun x12 u_ H locs e_ hP hD hS => ?_)
      have e_ : x12 = z_ := e_
      subst e_
      have hP : va_P G.1 vwCl (zw G MS 51 a g13 L14) H := hP
      have hD : va_D A (zw G MS 51 a g13 L14) := hD
      refine lv_goto (tgt := 37) hx hb dX12_limit_33 (by decide) ?_
      exact J37 x12 g13 L14 H locs ls h hP hD hS (lv_sub hl [] rfl)
def fX12_last_p73 (fu : Nat) (k11 : Int32 × Int32 × Int32 × (Nat → Nat → Int32) × (Nat → Nat → Int64) → Option ((Int32) × zS)) (v1 : Int32) (v2 : Int32) (v3 : Int32) (g : Nat → Nat → Int32) (L : Nat → Nat → Int64) : Option ((Int32) × zS) :=
  k11 (v1, v2, (v3 + 1), g, L)
def fX12_last_p68 (fu : Nat) (k11 : Int32 × Int32 × Int32 × (Nat → Nat → Int32) × (Nat → Nat → Int64) → Option ((Int32) × zS)) (v3 : Int32) (v5 : Int32) (g : Nat → Nat → Int32) (L : Nat → Nat → Int64) : Option ((Int32) × zS) :=
  fX12_last_p73 fu k11 v3 v5 v3 g L
def fX12_last_s11 (fu : Nat) (k11 : Int32 × Int32 × Int32 × (Nat → Nat → Int32) × (Nat → Nat → Int64) → Option ((Int32) × zS)) (v1 : Int32) (v2 : Int32) (v3 : Int32) (g : Nat → Nat → Int32) (L : Nat → Nat → Int64) : Option ((Int32) × zS) :=
  if (g 0 1) ≤ v3 then some (v1, (g, L))
  else ck (0 + v3) 48 (
  lti (g 12 (Int32.toNatClampNeg (0 + v3))) (fun x3 =>
  ck (0 + v3) 48 (sti g 12 (Int32.toNatClampNeg (0 + v3)) 0 (fun g4 =>
  cb (fX12_lost fu g4 L) (fun x5 g6 L7 =>
  ck (0 + v3) 48 (sti g6 12 (Int32.toNatClampNeg (0 + v3)) x3 (fun g9 =>
  if (v1 : Int32) = (-1) then fX12_last_p68 fu k11 v3 x5 g9 L7
  else if (x5 : Int32) < v2 then fX12_last_p68 fu k11 v3 x5 g9 L7
  else fX12_last_p73 fu k11 v1 v2 v3 g9 L7)))))))
def fX12_last_l11 (fu : Nat) (v1 : Int32) (v2 : Int32) (v3 : Int32) (g : Nat → Nat → Int32) (L : Nat → Nat → Int64) : Option ((Int32) × zS) :=
  whileK (fun k v => fX12_last_s11 fu k v.1 v.2.1 v.2.2.1 v.2.2.2.1 v.2.2.2.2) fu (v1, v2, v3, g, L)
def fX12_last (fu : Nat) (g : Nat → Nat → Int32) (L : Nat → Nat → Int64) : Option ((Int32) × zS) :=
  sti g 0 0 0 (fun g1 =>
  fX12_last_l11 fu (-1) 0 0 g1 L)
set_option maxHeartbeats 4000000 in
set_option maxRecDepth 100000 in
theorem rX12_last (l : Launch) (G : kG) (sz : Nat) (a : Nat → Nat) (fu : Nat) (g : Nat → Nat → Int32) (L : Nat → Nat → Int64) (res : Int32) (s9 : zS) (h : fX12_last fu g L = some (res, s9)) : kM l yX12_last cX12_last 6 (some .int) { frames := 12, cells := 0, slots := 0, locals := 250 } G [.ref (a 0)] (zw G MS 51 a g L) sz (kQi G (S := Unit) (fun r' _ => r' = res) (fun _ => zw G MS 51 a s9.1 s9.2)) := by
  refine kM.of (by decide) (Nat.le_of_ble_eq_true rfl) ?_
  intro p e s m below meth c A ls H C hr hlk hnm hP hD hS hl
  have C : kC G p s m c cX12_last 6 RX12 A := C
  have hx := C.1
  have hb := C.2.1
  have hl : lv_has ls 6 [(0, .ref (a 0))] := hl
  obtain ⟨locs, hlocs⟩ : ∃ q : List Loc, q = [] := ⟨_, rfl⟩
  rw [← hlocs] at hS
  rw [← hlocs]
  unfold fX12_last at h
  refine lv_aload_n hx hb dX12_last_0 rfl (lv_at hl 0 rfl) ?_
  refine lv_iconst (v := 0) hx hb dX12_last_1 (by decide) ?_
  refine y_puti (Or.inl fl_X12_177) ft_X12_0 C hP hD hS (by decide) ms_0 rfl rfl rfl dX12_last_2 h (fun g1 H locs h hP hD hS => ?_)
  refine lv_iconst (v := -1) hx hb dX12_last_5 (by decide) ?_
  refine lv_istore_n (lv' := [(1, .int (-1)), (0, .ref (a 0))]) hx hb dX12_last_6 rfl hl (by decide) rfl (fun ls hl => ?_)
  refine lv_iconst (v := 0) hx hb dX12_last_7 (by decide) ?_
  refine lv_istore_n (lv' := [(2, .int 0), (1, .int (-1)), (0, .ref (a 0))]) hx hb dX12_last_8 rfl hl (by decide) rfl (fun ls hl => ?_)
  refine lv_iconst (v := 0) hx hb dX12_last_9 (by decide) ?_
  refine lv_istore_n (lv' := [(3, .int 0), (2, .int 0), (1, .int (-1)), (0, .ref (a 0))]) hx hb dX12_last_10 rfl hl (by decide) rfl (fun ls hl => ?_)
  have lp11 : ∀ (_ : True), ∀ (n : Nat) (v : Int32 × Int32 × Int32 × (Nat → Nat → Int32) × (Nat → Nat → Int64)), whileK (fun k v => fX12_last_s11 fu k v.1 v.2.1 v.2.2.1 v.2.2.2.1 v.2.2.2.2) n v = some (res, s9) → ∀ (H : Heap) (locs : List Loc) (ls : Array Slot), va_P G.1 vwCl (zw G MS 51 a (v.2.2.2.1) (v.2.2.2.2)) H → va_D A (zw G MS 51 a (v.2.2.2.1) (v.2.2.2.2)) → va_S A s.heap H locs → lv_has ls 6 [(0, .ref (a 0)), (1, .int (v.1)), (2, .int (v.2.1)), (3, .int (v.2.2.1))] → W p l e { frames := 12, cells := 0, slots := 0, locals := 250 } s m [.ref (a 0)].toArray below meth c H locs 0 0 (MQ below ((kQi G (S := Unit) (fun r' _ => r' = res) (fun _ => zw G MS 51 a s9.1 s9.2)) A) [.ref (a 0)].toArray s 0 0 A) (F0 m 11 ls []) := by
    intro _
    refine while_ind (fun k11 ih11 v h => ?_)
    obtain ⟨v1, v2, v3, g, L⟩ := v
    intro H locs ls hP hD hS hl
    have h : fX12_last_s11 fu k11 v1 v2 v3 g L = some (res, s9) := h
    have hP : va_P G.1 vwCl (zw G MS 51 a g L) H := hP
    have hD : va_D A (zw G MS 51 a g L) := hD
    have hl : lv_has ls 6 [(0, .ref (a 0)), (1, .int v1), (2, .int v2), (3, .int v3)] := hl
    show W p l e { frames := 12, cells := 0, slots := 0, locals := 250 } s m [.ref (a 0)].toArray below meth c H locs 0 0 (MQ below ((kQi G (S := Unit) (fun r' _ => r' = res) (fun _ => zw G MS 51 a s9.1 s9.2)) A) [.ref (a 0)].toArray s 0 0 A) (F0 m 11 ls [])
    unfold fX12_last_s11 at h
    refine lv_iload_n hx hb dX12_last_11 rfl (lv_at hl 3 rfl) ?_
    refine lv_aload_n hx hb dX12_last_12 rfl (lv_at hl 0 rfl) ?_
    refine x_getv (v := .int (g 0 1)) (Or.inl fl_X12_335) C hP (by decide) ms_0 rfl dX12_last_13 ?_
    refine lv_icmp_ge (x := v3) (y := (g 0 1)) (tgt := 79) hx hb dX12_last_16 (by decide) (fun c2 => ?_) (fun c2 => ?_)
    ·
      have h := ite_t c2 h
      refine lv_iload_n hx hb dX12_last_79 rfl (lv_at hl 1 rfl) ?_
      exact y_iret C hr hlk hP hD hS h (Nat.le_of_ble_eq_true rfl) (Nat.le_of_ble_eq_true rfl) dX12_last_80
    ·
      have h := ite_e c2 h
      refine lv_aload_n hx hb dX12_last_19 rfl (lv_at hl 0 rfl) ?_
      refine x_getr (Or.inl fl_X12_50) C hP (by decide) ms_0 rfl dX12_last_20 ?_
      refine lv_iconst (v := 0) hx hb dX12_last_23 (by decide) ?_
      refine lv_iload_n hx hb dX12_last_24 rfl (lv_at hl 3 rfl) ?_
      refine lv_iadd hx hb dX12_last_25 ?_
      refine y_ald C hP (by decide) ms_12 dX12_last_26 h (fun h => ?_)
      refine y_let h (fun x3 h => ?_)
      refine lv_istore (lv' := [(4, .int x3), (0, .ref (a 0)), (1, .int v1), (2, .int v2), (3, .int v3)]) hx hb dX12_last_27 hl (by decide) rfl (fun ls hl => ?_)
      refine lv_aload_n hx hb dX12_last_29 rfl (lv_at hl 1 rfl) ?_
      refine x_getr (Or.inl fl_X12_50) C hP (by decide) ms_0 rfl dX12_last_30 ?_
      refine lv_iconst (v := 0) hx hb dX12_last_33 (by decide) ?_
      refine lv_iload_n hx hb dX12_last_34 rfl (lv_at hl 4 rfl) ?_
      refine lv_iadd hx hb dX12_last_35 ?_
      refine lv_iconst (v := 0) hx hb dX12_last_36 (by decide) ?_
      refine y_ast C hP hD hS (by decide) ms_12 dX12_last_37 h (fun g4 H locs h hP hD hS => ?_)
      refine lv_aload_n hx hb dX12_last_38 rfl (lv_at hl 1 rfl) ?_
      obtain ⟨z_, g6, L7, hf8, h⟩ := cb_some h
      refine x_callVi (rest := []) li_X12_399 C (rX12_lost l G H.size a fu g4 L z_ (g6, L7) hf8) (kR rfl) hP hD hS 0 12 rfl (zat (by decide) ms_0) rfl hl.1 rfl (Nat.le_of_ble_eq_true rfl) dX12_last_39 (fun x5 u_ H locs e_ hP hD hS => ?_)
      have e_ : x5 = z_ := e_
      subst e_
      have hP : va_P G.1 vwCl (zw G MS 51 a g6 L7) H := hP
      have hD : va_D A (zw G MS 51 a g6 L7) := hD
      refine lv_istore (lv' := [(5, .int x5), (4, .int x3), (0, .ref (a 0)), (1, .int v1), (2, .int v2), (3, .int v3)]) hx hb dX12_last_42 hl (by decide) rfl (fun ls hl => ?_)
      refine lv_aload_n hx hb dX12_last_44 rfl (lv_at hl 2 rfl) ?_
      refine x_getr (Or.inl fl_X12_50) C hP (by decide) ms_0 rfl dX12_last_45 ?_
      refine lv_iconst (v := 0) hx hb dX12_last_48 (by decide) ?_
      refine lv_iload_n hx hb dX12_last_49 rfl (lv_at hl 5 rfl) ?_
      refine lv_iadd hx hb dX12_last_50 ?_
      refine lv_iload hx hb dX12_last_51 (lv_at hl 1 rfl) ?_
      refine y_ast C hP hD hS (by decide) ms_12 dX12_last_53 h (fun g9 H locs h hP hD hS => ?_)
      refine lv_iload_n hx hb dX12_last_54 rfl (lv_at hl 3 rfl) ?_
      refine lv_iconst (v := -1) hx hb dX12_last_55 (by decide) ?_
      have J73 : ∀ (v1 : Int32) (v2 : Int32) (v3 : Int32) (g : Nat → Nat → Int32) (L : Nat → Nat → Int64) (H : Heap) (locs : List Loc) (ls : Array Slot), fX12_last_p73 fu k11 v1 v2 v3 g L = some (res, s9) → va_P G.1 vwCl (zw G MS 51 a g L) H → va_D A (zw G MS 51 a g L) → va_S A s.heap H locs → lv_has ls 6 [(0, .ref (a 0)), (1, .int v1), (2, .int v2), (3, .int v3)] → W p l e { frames := 12, cells := 0, slots := 0, locals := 250 } s m [.ref (a 0)].toArray below meth c H locs 0 0 (MQ below ((kQi G (S := Unit) (fun r' _ => r' = res) (fun _ => zw G MS 51 a s9.1 s9.2)) A) [.ref (a 0)].toArray s 0 0 A) (F0 m 73 ls []) := by
        intro v1 v2 v3 g L H locs ls h hP hD hS hl
        unfold fX12_last_p73 at h
        refine lv_iinc (v := (v3 + 1)) (lv' := [(3, .int (v3 + 1)), (0, .ref (a 0)), (1, .int v1), (2, .int v2)]) hx hb dX12_last_73 hl (k := 3) rfl rfl (by decide) rfl (fun ls hl => ?_)
        refine lv_goto (tgt := 11) hx hb dX12_last_76 (by decide) ?_
        exact ih11 (v1, v2, (v3 + 1), g, L) h H locs ls hP hD hS (lv_sub hl [1, 2, 3, 0] rfl)
      have J68 : ∀ (v3 : Int32) (v5 : Int32) (g : Nat → Nat → Int32) (L : Nat → Nat → Int64) (H : Heap) (locs : List Loc) (ls : Array Slot), fX12_last_p68 fu k11 v3 v5 g L = some (res, s9) → va_P G.1 vwCl (zw G MS 51 a g L) H → va_D A (zw G MS 51 a g L) → va_S A s.heap H locs → lv_has ls 6 [(0, .ref (a 0)), (3, .int v3), (5, .int v5)] → W p l e { frames := 12, cells := 0, slots := 0, locals := 250 } s m [.ref (a 0)].toArray below meth c H locs 0 0 (MQ below ((kQi G (S := Unit) (fun r' _ => r' = res) (fun _ => zw G MS 51 a s9.1 s9.2)) A) [.ref (a 0)].toArray s 0 0 A) (F0 m 68 ls []) := by
        intro v3 v5 g L H locs ls h hP hD hS hl
        unfold fX12_last_p68 at h
        refine lv_iload_n hx hb dX12_last_68 rfl (lv_at hl 1 rfl) ?_
        refine lv_istore_n (lv' := [(1, .int v3), (0, .ref (a 0)), (3, .int v3), (5, .int v5)]) hx hb dX12_last_69 rfl hl (by decide) rfl (fun ls hl => ?_)
        refine lv_iload hx hb dX12_last_70 (lv_at hl 3 rfl) ?_
        refine lv_istore_n (lv' := [(2, .int v5), (1, .int v3), (0, .ref (a 0)), (3, .int v3), (5, .int v5)]) hx hb dX12_last_72 rfl hl (by decide) rfl (fun ls hl => ?_)
        exact J73 v3 v5 v3 g L H locs ls h hP hD hS (lv_sub hl [2, 1, 0, 3] rfl)
      refine lv_icmp_eq (x := v1) (y := (-1)) (tgt := 68) hx hb dX12_last_56 (by decide) (fun c10 => ?_) (fun c10 => ?_)
      ·
        have h := ite_t c10 h
        exact J68 v3 x5 g9 L7 H locs ls h hP hD hS (lv_sub hl [2, 5, 0] rfl)
      ·
        have h := ite_e c10 h
        refine lv_iload hx hb dX12_last_59 (lv_at hl 0 rfl) ?_
        refine lv_iload_n hx hb dX12_last_61 rfl (lv_at hl 4 rfl) ?_
        refine lv_icmp_lt (x := x5) (y := v2) (tgt := 68) hx hb dX12_last_62 (by decide) (fun c11 => ?_) (fun c11 => ?_)
        ·
          have h := ite_t c11 h
          exact J68 v3 x5 g9 L7 H locs ls h hP hD hS (lv_sub hl [2, 5, 0] rfl)
        ·
          have h := ite_e c11 h
          refine lv_goto (tgt := 73) hx hb dX12_last_65 (by decide) ?_
          exact J73 v1 v2 v3 g9 L7 H locs ls h hP hD hS (lv_sub hl [2, 3, 4, 5] rfl)
  exact lp11 trivial fu ((-1), 0, 0, g1, L) h H locs ls hP hD hS (lv_sub hl [3, 2, 1, 0] rfl)
def fX12_lostBy (fu : Nat) (p1 : Int32) (g : Nat → Nat → Int32) (L : Nat → Nat → Int64) : Option ((Int32) × zS) :=
  lti (g 0 52) (fun x1 =>
  sti g 0 52 p1 (fun g2 =>
  cb (fX12_lost fu g2 L) (fun x3 g4 L5 =>
  sti g4 0 52 x1 (fun g7 =>
  some (x3, (g7, L5))))))
set_option maxHeartbeats 4000000 in
set_option maxRecDepth 100000 in
theorem rX12_lostBy (l : Launch) (G : kG) (sz : Nat) (a : Nat → Nat) (fu : Nat) (g : Nat → Nat → Int32) (L : Nat → Nat → Int64) (p1 : Int32) (res : Int32) (s9 : zS) (h : fX12_lostBy fu p1 g L = some (res, s9)) : kM l yX12_lostBy cX12_lostBy 4 (some .int) { frames := 12, cells := 0, slots := 0, locals := 250 } G [.ref (a 0), .int p1] (zw G MS 51 a g L) sz (kQi G (S := Unit) (fun r' _ => r' = res) (fun _ => zw G MS 51 a s9.1 s9.2)) := by
  refine kM.of (by decide) (Nat.le_of_ble_eq_true rfl) ?_
  intro p e s m below meth c A ls H C hr hlk hnm hP hD hS hl
  have C : kC G p s m c cX12_lostBy 4 RX12 A := C
  have hx := C.1
  have hb := C.2.1
  have hl : lv_has ls 4 [(0, .ref (a 0)), (1, .int p1)] := hl
  obtain ⟨locs, hlocs⟩ : ∃ q : List Loc, q = [] := ⟨_, rfl⟩
  rw [← hlocs] at hS
  rw [← hlocs]
  unfold fX12_lostBy at h
  refine lv_aload_n hx hb dX12_lostBy_0 rfl (lv_at hl 0 rfl) ?_
  refine x_getv (v := .int (g 0 52)) (Or.inl fl_X12_105) C hP (by decide) ms_0 rfl dX12_lostBy_1 ?_
  refine y_let h (fun x1 h => ?_)
  refine lv_istore_n (lv' := [(2, .int x1), (0, .ref (a 0)), (1, .int p1)]) hx hb dX12_lostBy_4 rfl hl (by decide) rfl (fun ls hl => ?_)
  refine lv_aload_n hx hb dX12_lostBy_5 rfl (lv_at hl 1 rfl) ?_
  refine lv_iload_n hx hb dX12_lostBy_6 rfl (lv_at hl 2 rfl) ?_
  refine y_puti (Or.inl fl_X12_105) ft_X12_52 C hP hD hS (by decide) ms_0 rfl rfl rfl dX12_lostBy_7 h (fun g2 H locs h hP hD hS => ?_)
  refine lv_aload_n hx hb dX12_lostBy_10 rfl (lv_at hl 1 rfl) ?_
  obtain ⟨z_, g4, L5, hf6, h⟩ := cb_some h
  refine x_callVi (rest := []) li_X12_399 C (rX12_lost l G H.size a fu g2 L z_ (g4, L5) hf6) (kR rfl) hP hD hS 0 12 rfl (zat (by decide) ms_0) rfl hl.1 rfl (Nat.le_of_ble_eq_true rfl) dX12_lostBy_11 (fun x3 u_ H locs e_ hP hD hS => ?_)
  have e_ : x3 = z_ := e_
  subst e_
  have hP : va_P G.1 vwCl (zw G MS 51 a g4 L5) H := hP
  have hD : va_D A (zw G MS 51 a g4 L5) := hD
  refine lv_istore_n (lv' := [(3, .int x3), (2, .int x1), (0, .ref (a 0)), (1, .int p1)]) hx hb dX12_lostBy_14 rfl hl (by decide) rfl (fun ls hl => ?_)
  refine lv_aload_n hx hb dX12_lostBy_15 rfl (lv_at hl 2 rfl) ?_
  refine lv_iload_n hx hb dX12_lostBy_16 rfl (lv_at hl 1 rfl) ?_
  refine y_puti (Or.inl fl_X12_105) ft_X12_52 C hP hD hS (by decide) ms_0 rfl rfl rfl dX12_lostBy_17 h (fun g7 H locs h hP hD hS => ?_)
  refine lv_iload_n hx hb dX12_lostBy_20 rfl (lv_at hl 0 rfl) ?_
  exact y_iret C hr hlk hP hD hS h (Nat.le_of_ble_eq_true rfl) (Nat.le_of_ble_eq_true rfl) dX12_lostBy_21
def fX12_compare_p40 (fu : Nat) (t0 : Int32) (g : Nat → Nat → Int32) (L : Nat → Nat → Int64) : Option ((Int32) × zS) :=
  some (t0, (g, L))
def fX12_compare_p24 (fu : Nat) (v1 : Int32) (t0 : Int32) (g : Nat → Nat → Int32) (L : Nat → Nat → Int64) : Option ((Int32) × zS) :=
  cb (fX12_right fu t0 1 g L) (fun x2 g3 L4 =>
  if x2 = 0 then fX12_compare_p40 fu 0 g3 L4
  else cb (fX12_lostBy fu v1 g3 L4) (fun x7 g8 L9 =>
  fX12_compare_p40 fu x7 g8 L9))
def fX12_compare_p23 (fu : Nat) (v1 : Int32) (g : Nat → Nat → Int32) (L : Nat → Nat → Int64) : Option ((Int32) × zS) :=
  fX12_compare_p24 fu v1 0 g L
def fX12_compare (fu : Nat) (p1 : Int32) (g : Nat → Nat → Int32) (L : Nat → Nat → Int64) : Option ((Int32) × zS) :=
  sti g 0 0 0 (fun g1 =>
  if (p1 : Int32) < (-1) then fX12_compare_p23 fu p1 g1 L
  else if (g1 0 2) ≤ p1 then fX12_compare_p23 fu p1 g1 L
  else fX12_compare_p24 fu p1 1 g1 L)
set_option maxHeartbeats 4000000 in
set_option maxRecDepth 100000 in
theorem rX12_compare (l : Launch) (G : kG) (sz : Nat) (a : Nat → Nat) (fu : Nat) (g : Nat → Nat → Int32) (L : Nat → Nat → Int64) (p1 : Int32) (res : Int32) (s9 : zS) (h : fX12_compare fu p1 g L = some (res, s9)) : kM l yX12_compare cX12_compare 2 (some .int) { frames := 13, cells := 0, slots := 0, locals := 273 } G [.ref (a 0), .int p1] (zw G MS 51 a g L) sz (kQi G (S := Unit) (fun r' _ => r' = res) (fun _ => zw G MS 51 a s9.1 s9.2)) := by
  refine kM.of (by decide) (Nat.le_of_ble_eq_true rfl) ?_
  intro p e s m below meth c A ls H C hr hlk hnm hP hD hS hl
  have C : kC G p s m c cX12_compare 2 RX12 A := C
  have hx := C.1
  have hb := C.2.1
  have hl : lv_has ls 2 [(0, .ref (a 0)), (1, .int p1)] := hl
  obtain ⟨locs, hlocs⟩ : ∃ q : List Loc, q = [] := ⟨_, rfl⟩
  rw [← hlocs] at hS
  rw [← hlocs]
  unfold fX12_compare at h
  refine lv_aload_n hx hb dX12_compare_0 rfl (lv_at hl 0 rfl) ?_
  refine lv_iconst (v := 0) hx hb dX12_compare_1 (by decide) ?_
  refine y_puti (Or.inl fl_X12_177) ft_X12_0 C hP hD hS (by decide) ms_0 rfl rfl rfl dX12_compare_2 h (fun g1 H locs h hP hD hS => ?_)
  refine lv_aload_n hx hb dX12_compare_5 rfl (lv_at hl 0 rfl) ?_
  refine lv_iload_n hx hb dX12_compare_6 rfl (lv_at hl 1 rfl) ?_
  refine lv_iconst (v := -1) hx hb dX12_compare_7 (by decide) ?_
  have J24 : ∀ (v1 : Int32) (t0 : Int32) (g : Nat → Nat → Int32) (L : Nat → Nat → Int64) (H : Heap) (locs : List Loc) (ls : Array Slot), fX12_compare_p24 fu v1 t0 g L = some (res, s9) → va_P G.1 vwCl (zw G MS 51 a g L) H → va_D A (zw G MS 51 a g L) → va_S A s.heap H locs → lv_has ls 2 [(0, .ref (a 0)), (1, .int v1)] → W p l e { frames := 13, cells := 0, slots := 0, locals := 273 } s m [.ref (a 0), .int p1].toArray below meth c H locs 0 0 (MQ below ((kQi G (S := Unit) (fun r' _ => r' = res) (fun _ => zw G MS 51 a s9.1 s9.2)) A) [.ref (a 0), .int p1].toArray s 0 0 A) (F0 m 24 ls [.int t0, .ref (a 0)]) := by
    intro v1 t0 g L H locs ls h hP hD hS hl
    unfold fX12_compare_p24 at h
    refine lv_iconst (v := 1) hx hb dX12_compare_24 (by decide) ?_
    obtain ⟨z_, g3, L4, hf5, h⟩ := cb_some h
    refine x_callVi (rest := []) li_X12_328 C (rX12_right l G H.size a fu g L t0 1 z_ (g3, L4) hf5) (kR rfl) hP hD hS 0 12 rfl (zat (by decide) ms_0) rfl hl.1 rfl (Nat.le_of_ble_eq_true rfl) dX12_compare_25 (fun x2 u_ H locs e_ hP hD hS => ?_)
    have e_ : x2 = z_ := e_
    subst e_
    have hP : va_P G.1 vwCl (zw G MS 51 a g3 L4) H := hP
    have hD : va_D A (zw G MS 51 a g3 L4) := hD
    have J40 : ∀ (t0 : Int32) (g : Nat → Nat → Int32) (L : Nat → Nat → Int64) (H : Heap) (locs : List Loc) (ls : Array Slot), fX12_compare_p40 fu t0 g L = some (res, s9) → va_P G.1 vwCl (zw G MS 51 a g L) H → va_D A (zw G MS 51 a g L) → va_S A s.heap H locs → lv_has ls 2 [] → W p l e { frames := 13, cells := 0, slots := 0, locals := 273 } s m [.ref (a 0), .int p1].toArray below meth c H locs 0 0 (MQ below ((kQi G (S := Unit) (fun r' _ => r' = res) (fun _ => zw G MS 51 a s9.1 s9.2)) A) [.ref (a 0), .int p1].toArray s 0 0 A) (F0 m 40 ls [.int t0]) := by
      intro t0 g L H locs ls h hP hD hS hl
      unfold fX12_compare_p40 at h
      exact y_iret C hr hlk hP hD hS h (Nat.le_of_ble_eq_true rfl) (Nat.le_of_ble_eq_true rfl) dX12_compare_40
    refine lv_if_eq (x := x2) (tgt := 39) hx hb dX12_compare_28 (by decide) (fun c6 => ?_) (fun c6 => ?_)
    ·
      have h := ite_t c6 h
      refine lv_iconst (v := 0) hx hb dX12_compare_39 (by decide) ?_
      exact J40 0 g3 L4 H locs ls h hP hD hS (lv_sub hl [] rfl)
    ·
      have h := ite_e c6 h
      refine lv_aload_n hx hb dX12_compare_31 rfl (lv_at hl 0 rfl) ?_
      refine lv_iload_n hx hb dX12_compare_32 rfl (lv_at hl 1 rfl) ?_
      obtain ⟨z_, g8, L9, hf10, h⟩ := cb_some h
      refine x_callVi (rest := []) li_X12_459 C (rX12_lostBy l G H.size a fu g3 L4 v1 z_ (g8, L9) hf10) (kR rfl) hP hD hS 0 12 rfl (zat (by decide) ms_0) rfl hl.1 rfl (Nat.le_of_ble_eq_true rfl) dX12_compare_33 (fun x7 u_ H locs e_ hP hD hS => ?_)
      have e_ : x7 = z_ := e_
      subst e_
      have hP : va_P G.1 vwCl (zw G MS 51 a g8 L9) H := hP
      have hD : va_D A (zw G MS 51 a g8 L9) := hD
      refine lv_goto (tgt := 40) hx hb dX12_compare_36 (by decide) ?_
      exact J40 x7 g8 L9 H locs ls h hP hD hS (lv_sub hl [] rfl)
  have J23 : ∀ (v1 : Int32) (g : Nat → Nat → Int32) (L : Nat → Nat → Int64) (H : Heap) (locs : List Loc) (ls : Array Slot), fX12_compare_p23 fu v1 g L = some (res, s9) → va_P G.1 vwCl (zw G MS 51 a g L) H → va_D A (zw G MS 51 a g L) → va_S A s.heap H locs → lv_has ls 2 [(0, .ref (a 0)), (1, .int v1)] → W p l e { frames := 13, cells := 0, slots := 0, locals := 273 } s m [.ref (a 0), .int p1].toArray below meth c H locs 0 0 (MQ below ((kQi G (S := Unit) (fun r' _ => r' = res) (fun _ => zw G MS 51 a s9.1 s9.2)) A) [.ref (a 0), .int p1].toArray s 0 0 A) (F0 m 23 ls [.ref (a 0)]) := by
    intro v1 g L H locs ls h hP hD hS hl
    unfold fX12_compare_p23 at h
    refine lv_iconst (v := 0) hx hb dX12_compare_23 (by decide) ?_
    exact J24 v1 0 g L H locs ls h hP hD hS (lv_sub hl [0, 1] rfl)
  refine lv_icmp_lt (x := p1) (y := (-1)) (tgt := 23) hx hb dX12_compare_8 (by decide) (fun c11 => ?_) (fun c11 => ?_)
  ·
    have h := ite_t c11 h
    exact J23 p1 g1 L H locs ls h hP hD hS (lv_sub hl [0, 1] rfl)
  ·
    have h := ite_e c11 h
    refine lv_iload_n hx hb dX12_compare_11 rfl (lv_at hl 1 rfl) ?_
    refine lv_aload_n hx hb dX12_compare_12 rfl (lv_at hl 0 rfl) ?_
    refine x_getv (v := .int (g1 0 2)) (Or.inl fl_X12_338) C hP (by decide) ms_0 rfl dX12_compare_13 ?_
    refine lv_icmp_ge (x := p1) (y := (g1 0 2)) (tgt := 23) hx hb dX12_compare_16 (by decide) (fun c12 => ?_) (fun c12 => ?_)
    ·
      have h := ite_t c12 h
      exact J23 p1 g1 L H locs ls h hP hD hS (lv_sub hl [0, 1] rfl)
    ·
      have h := ite_e c12 h
      refine lv_iconst (v := 1) hx hb dX12_compare_19 (by decide) ?_
      refine lv_goto (tgt := 24) hx hb dX12_compare_20 (by decide) ?_
      exact J24 p1 1 g1 L H locs ls h hP hD hS (lv_sub hl [0, 1] rfl)
def fX12_best_p32 (fu : Nat) (k9 : Int32 × Int32 × (Nat → Nat → Int32) × (Nat → Nat → Int64) → Option ((Int32) × zS)) (v1 : Int32) (v2 : Int32) (g : Nat → Nat → Int32) (L : Nat → Nat → Int64) : Option ((Int32) × zS) :=
  k9 (v1, (v2 + 1), g, L)
def fX12_best_s9 (fu : Nat) (k9 : Int32 × Int32 × (Nat → Nat → Int32) × (Nat → Nat → Int64) → Option ((Int32) × zS)) (v1 : Int32) (v2 : Int32) (g : Nat → Nat → Int32) (L : Nat → Nat → Int64) : Option ((Int32) × zS) :=
  if (g 0 2) ≤ v2 then some (v1, (g, L))
  else cb (fX12_lostBy fu v2 g L) (fun x3 g4 L5 =>
  cb (fX12_lostBy fu v1 g4 L5) (fun x7 g8 L9 =>
  if x7 ≤ (x3 : Int32) then fX12_best_p32 fu k9 v1 v2 g8 L9
  else fX12_best_p32 fu k9 v2 v2 g8 L9))
def fX12_best_l9 (fu : Nat) (v1 : Int32) (v2 : Int32) (g : Nat → Nat → Int32) (L : Nat → Nat → Int64) : Option ((Int32) × zS) :=
  whileK (fun k v => fX12_best_s9 fu k v.1 v.2.1 v.2.2.1 v.2.2.2) fu (v1, v2, g, L)
def fX12_best (fu : Nat) (g : Nat → Nat → Int32) (L : Nat → Nat → Int64) : Option ((Int32) × zS) :=
  sti g 0 0 0 (fun g1 =>
  fX12_best_l9 fu (-1) 0 g1 L)
set_option maxHeartbeats 4000000 in
set_option maxRecDepth 100000 in
theorem rX12_best (l : Launch) (G : kG) (sz : Nat) (a : Nat → Nat) (fu : Nat) (g : Nat → Nat → Int32) (L : Nat → Nat → Int64) (res : Int32) (s9 : zS) (h : fX12_best fu g L = some (res, s9)) : kM l yX12_best cX12_best 3 (some .int) { frames := 13, cells := 0, slots := 0, locals := 273 } G [.ref (a 0)] (zw G MS 51 a g L) sz (kQi G (S := Unit) (fun r' _ => r' = res) (fun _ => zw G MS 51 a s9.1 s9.2)) := by
  refine kM.of (by decide) (Nat.le_of_ble_eq_true rfl) ?_
  intro p e s m below meth c A ls H C hr hlk hnm hP hD hS hl
  have C : kC G p s m c cX12_best 3 RX12 A := C
  have hx := C.1
  have hb := C.2.1
  have hl : lv_has ls 3 [(0, .ref (a 0))] := hl
  obtain ⟨locs, hlocs⟩ : ∃ q : List Loc, q = [] := ⟨_, rfl⟩
  rw [← hlocs] at hS
  rw [← hlocs]
  unfold fX12_best at h
  refine lv_aload_n hx hb dX12_best_0 rfl (lv_at hl 0 rfl) ?_
  refine lv_iconst (v := 0) hx hb dX12_best_1 (by decide) ?_
  refine y_puti (Or.inl fl_X12_177) ft_X12_0 C hP hD hS (by decide) ms_0 rfl rfl rfl dX12_best_2 h (fun g1 H locs h hP hD hS => ?_)
  refine lv_iconst (v := -1) hx hb dX12_best_5 (by decide) ?_
  refine lv_istore_n (lv' := [(1, .int (-1)), (0, .ref (a 0))]) hx hb dX12_best_6 rfl hl (by decide) rfl (fun ls hl => ?_)
  refine lv_iconst (v := 0) hx hb dX12_best_7 (by decide) ?_
  refine lv_istore_n (lv' := [(2, .int 0), (1, .int (-1)), (0, .ref (a 0))]) hx hb dX12_best_8 rfl hl (by decide) rfl (fun ls hl => ?_)
  have lp9 : ∀ (_ : True), ∀ (n : Nat) (v : Int32 × Int32 × (Nat → Nat → Int32) × (Nat → Nat → Int64)), whileK (fun k v => fX12_best_s9 fu k v.1 v.2.1 v.2.2.1 v.2.2.2) n v = some (res, s9) → ∀ (H : Heap) (locs : List Loc) (ls : Array Slot), va_P G.1 vwCl (zw G MS 51 a (v.2.2.1) (v.2.2.2)) H → va_D A (zw G MS 51 a (v.2.2.1) (v.2.2.2)) → va_S A s.heap H locs → lv_has ls 3 [(0, .ref (a 0)), (1, .int (v.1)), (2, .int (v.2.1))] → W p l e { frames := 13, cells := 0, slots := 0, locals := 273 } s m [.ref (a 0)].toArray below meth c H locs 0 0 (MQ below ((kQi G (S := Unit) (fun r' _ => r' = res) (fun _ => zw G MS 51 a s9.1 s9.2)) A) [.ref (a 0)].toArray s 0 0 A) (F0 m 9 ls []) := by
    intro _
    refine while_ind (fun k9 ih9 v h => ?_)
    obtain ⟨v1, v2, g, L⟩ := v
    intro H locs ls hP hD hS hl
    have h : fX12_best_s9 fu k9 v1 v2 g L = some (res, s9) := h
    have hP : va_P G.1 vwCl (zw G MS 51 a g L) H := hP
    have hD : va_D A (zw G MS 51 a g L) := hD
    have hl : lv_has ls 3 [(0, .ref (a 0)), (1, .int v1), (2, .int v2)] := hl
    show W p l e { frames := 13, cells := 0, slots := 0, locals := 273 } s m [.ref (a 0)].toArray below meth c H locs 0 0 (MQ below ((kQi G (S := Unit) (fun r' _ => r' = res) (fun _ => zw G MS 51 a s9.1 s9.2)) A) [.ref (a 0)].toArray s 0 0 A) (F0 m 9 ls [])
    unfold fX12_best_s9 at h
    refine lv_iload_n hx hb dX12_best_9 rfl (lv_at hl 2 rfl) ?_
    refine lv_aload_n hx hb dX12_best_10 rfl (lv_at hl 0 rfl) ?_
    refine x_getv (v := .int (g 0 2)) (Or.inl fl_X12_338) C hP (by decide) ms_0 rfl dX12_best_11 ?_
    refine lv_icmp_ge (x := v2) (y := (g 0 2)) (tgt := 38) hx hb dX12_best_14 (by decide) (fun c2 => ?_) (fun c2 => ?_)
    ·
      have h := ite_t c2 h
      refine lv_iload_n hx hb dX12_best_38 rfl (lv_at hl 1 rfl) ?_
      exact y_iret C hr hlk hP hD hS h (Nat.le_of_ble_eq_true rfl) (Nat.le_of_ble_eq_true rfl) dX12_best_39
    ·
      have h := ite_e c2 h
      refine lv_aload_n hx hb dX12_best_17 rfl (lv_at hl 0 rfl) ?_
      refine lv_iload_n hx hb dX12_best_18 rfl (lv_at hl 2 rfl) ?_
      obtain ⟨z_, g4, L5, hf6, h⟩ := cb_some h
      refine x_callVi (rest := []) li_X12_459 C (rX12_lostBy l G H.size a fu g L v2 z_ (g4, L5) hf6) (kR rfl) hP hD hS 0 12 rfl (zat (by decide) ms_0) rfl hl.1 rfl (Nat.le_of_ble_eq_true rfl) dX12_best_19 (fun x3 u_ H locs e_ hP hD hS => ?_)
      have e_ : x3 = z_ := e_
      subst e_
      have hP : va_P G.1 vwCl (zw G MS 51 a g4 L5) H := hP
      have hD : va_D A (zw G MS 51 a g4 L5) := hD
      refine lv_aload_n hx hb dX12_best_22 rfl (lv_at hl 0 rfl) ?_
      refine lv_iload_n hx hb dX12_best_23 rfl (lv_at hl 1 rfl) ?_
      obtain ⟨z_, g8, L9, hf10, h⟩ := cb_some h
      refine x_callVi (rest := [.int x3]) li_X12_459 C (rX12_lostBy l G H.size a fu g4 L5 v1 z_ (g8, L9) hf10) (kR rfl) hP hD hS 0 12 rfl (zat (by decide) ms_0) rfl hl.1 rfl (Nat.le_of_ble_eq_true rfl) dX12_best_24 (fun x7 u_ H locs e_ hP hD hS => ?_)
      have e_ : x7 = z_ := e_
      subst e_
      have hP : va_P G.1 vwCl (zw G MS 51 a g8 L9) H := hP
      have hD : va_D A (zw G MS 51 a g8 L9) := hD
      have J32 : ∀ (v1 : Int32) (v2 : Int32) (g : Nat → Nat → Int32) (L : Nat → Nat → Int64) (H : Heap) (locs : List Loc) (ls : Array Slot), fX12_best_p32 fu k9 v1 v2 g L = some (res, s9) → va_P G.1 vwCl (zw G MS 51 a g L) H → va_D A (zw G MS 51 a g L) → va_S A s.heap H locs → lv_has ls 3 [(0, .ref (a 0)), (1, .int v1), (2, .int v2)] → W p l e { frames := 13, cells := 0, slots := 0, locals := 273 } s m [.ref (a 0)].toArray below meth c H locs 0 0 (MQ below ((kQi G (S := Unit) (fun r' _ => r' = res) (fun _ => zw G MS 51 a s9.1 s9.2)) A) [.ref (a 0)].toArray s 0 0 A) (F0 m 32 ls []) := by
        intro v1 v2 g L H locs ls h hP hD hS hl
        unfold fX12_best_p32 at h
        refine lv_iinc (v := (v2 + 1)) (lv' := [(2, .int (v2 + 1)), (0, .ref (a 0)), (1, .int v1)]) hx hb dX12_best_32 hl (k := 2) rfl rfl (by decide) rfl (fun ls hl => ?_)
        refine lv_goto (tgt := 9) hx hb dX12_best_35 (by decide) ?_
        exact ih9 (v1, (v2 + 1), g, L) h H locs ls hP hD hS (lv_sub hl [1, 2, 0] rfl)
      refine lv_icmp_ge (x := x3) (y := x7) (tgt := 32) hx hb dX12_best_27 (by decide) (fun c11 => ?_) (fun c11 => ?_)
      ·
        have h := ite_t c11 h
        exact J32 v1 v2 g8 L9 H locs ls h hP hD hS (lv_sub hl [0, 1, 2] rfl)
      ·
        have h := ite_e c11 h
        refine lv_iload_n hx hb dX12_best_30 rfl (lv_at hl 2 rfl) ?_
        refine lv_istore_n (lv' := [(1, .int v2), (0, .ref (a 0)), (2, .int v2)]) hx hb dX12_best_31 rfl hl (by decide) rfl (fun ls hl => ?_)
        exact J32 v2 v2 g8 L9 H locs ls h hP hD hS (lv_sub hl [1, 0, 2] rfl)
  exact lp9 trivial fu ((-1), 0, g1, L) h H locs ls hP hD hS (lv_sub hl [2, 1, 0] rfl)
def fX12_copies_12_42_s2 (fu : Nat) (k2 : Int32 × (Nat → Nat → Int32) × (Nat → Nat → Int64) → Option ((Unit) × zS)) (v3 : Int32) (g : Nat → Nat → Int32) (L : Nat → Nat → Int64) : Option ((Unit) × zS) :=
  if 48 ≤ (v3 : Int32) then some ((), (g, L))
  else ck v3 48 (
  ck v3 48 (sti g 42 (Int32.toNatClampNeg v3) (g 12 (Int32.toNatClampNeg v3)) (fun g2 =>
  k2 ((v3 + 1), g2, L))))
def fX12_copies_12_42_l2 (fu : Nat) (v3 : Int32) (g : Nat → Nat → Int32) (L : Nat → Nat → Int64) : Option ((Unit) × zS) :=
  whileK (fun k v => fX12_copies_12_42_s2 fu k v.1 v.2.1 v.2.2) fu (v3, g, L)
def fX12_copies_12_42 (fu : Nat) (g : Nat → Nat → Int32) (L : Nat → Nat → Int64) : Option ((Unit) × zS) :=
  fX12_copies_12_42_l2 fu 0 g L
set_option maxHeartbeats 4000000 in
set_option maxRecDepth 100000 in
theorem rX12_copies_12_42 (l : Launch) (G : kG) (sz : Nat) (a : Nat → Nat) (fu : Nat) (g : Nat → Nat → Int32) (L : Nat → Nat → Int64) (res : Unit) (s9 : zS) (h : fX12_copies_12_42 fu g L = some (res, s9)) : kM l yX12_copies cX12_copies 4 none { frames := 6, cells := 0, slots := 0, locals := 110 } G [.ref (a 0), .ref (a 12), .ref (a 42)] (zw G MS 51 a g L) sz (kQv G (S := Unit) (fun _ => True) (fun _ => zw G MS 51 a s9.1 s9.2)) := by
  refine kM.of (by decide) (Nat.le_of_ble_eq_true rfl) ?_
  intro p e s m below meth c A ls H C hr hlk hnm hP hD hS hl
  have C : kC G p s m c cX12_copies 4 RX12 A := C
  have hx := C.1
  have hb := C.2.1
  have hl : lv_has ls 4 [(0, .ref (a 0)), (1, .ref (a 12)), (2, .ref (a 42))] := hl
  obtain ⟨locs, hlocs⟩ : ∃ q : List Loc, q = [] := ⟨_, rfl⟩
  rw [← hlocs] at hS
  rw [← hlocs]
  unfold fX12_copies_12_42 at h
  refine lv_iconst (v := 0) hx hb dX12_copies_0 (by decide) ?_
  refine lv_istore_n (lv' := [(3, .int 0), (0, .ref (a 0)), (1, .ref (a 12)), (2, .ref (a 42))]) hx hb dX12_copies_1 rfl hl (by decide) rfl (fun ls hl => ?_)
  have lp2 : ∀ (_ : True), ∀ (n : Nat) (v : Int32 × (Nat → Nat → Int32) × (Nat → Nat → Int64)), whileK (fun k v => fX12_copies_12_42_s2 fu k v.1 v.2.1 v.2.2) n v = some (res, s9) → ∀ (H : Heap) (locs : List Loc) (ls : Array Slot), va_P G.1 vwCl (zw G MS 51 a (v.2.1) (v.2.2)) H → va_D A (zw G MS 51 a (v.2.1) (v.2.2)) → va_S A s.heap H locs → lv_has ls 4 [(1, .ref (a 12)), (2, .ref (a 42)), (3, .int (v.1))] → W p l e { frames := 6, cells := 0, slots := 0, locals := 110 } s m [.ref (a 0), .ref (a 12), .ref (a 42)].toArray below meth c H locs 0 0 (MQ below ((kQv G (S := Unit) (fun _ => True) (fun _ => zw G MS 51 a s9.1 s9.2)) A) [.ref (a 0), .ref (a 12), .ref (a 42)].toArray s 0 0 A) (F0 m 2 ls []) := by
    intro _
    refine while_ind (fun k2 ih2 v h => ?_)
    obtain ⟨v3, g, L⟩ := v
    intro H locs ls hP hD hS hl
    have h : fX12_copies_12_42_s2 fu k2 v3 g L = some (res, s9) := h
    have hP : va_P G.1 vwCl (zw G MS 51 a g L) H := hP
    have hD : va_D A (zw G MS 51 a g L) := hD
    have hl : lv_has ls 4 [(1, .ref (a 12)), (2, .ref (a 42)), (3, .int v3)] := hl
    show W p l e { frames := 6, cells := 0, slots := 0, locals := 110 } s m [.ref (a 0), .ref (a 12), .ref (a 42)].toArray below meth c H locs 0 0 (MQ below ((kQv G (S := Unit) (fun _ => True) (fun _ => zw G MS 51 a s9.1 s9.2)) A) [.ref (a 0), .ref (a 12), .ref (a 42)].toArray s 0 0 A) (F0 m 2 ls [])
    unfold fX12_copies_12_42_s2 at h
    refine lv_iload_n hx hb dX12_copies_2 rfl (lv_at hl 2 rfl) ?_
    refine lv_aload_n hx hb dX12_copies_3 rfl (lv_at hl 0 rfl) ?_
    refine x_alen (v := 48) C hP (by decide) ms_12 rfl dX12_copies_4 ?_
    refine lv_icmp_ge (x := v3) (y := 48) (tgt := 20) hx hb dX12_copies_5 (by decide) (fun c1 => ?_) (fun c1 => ?_)
    ·
      have h := ite_t c1 h
      exact y_vret C hr hlk hP hD hS h (Nat.le_of_ble_eq_true rfl) (Nat.le_of_ble_eq_true rfl) dX12_copies_20
    ·
      have h := ite_e c1 h
      refine lv_aload_n hx hb dX12_copies_8 rfl (lv_at hl 1 rfl) ?_
      refine lv_iload_n hx hb dX12_copies_9 rfl (lv_at hl 2 rfl) ?_
      refine lv_aload_n hx hb dX12_copies_10 rfl (lv_at hl 0 rfl) ?_
      refine lv_iload_n hx hb dX12_copies_11 rfl (lv_at hl 2 rfl) ?_
      refine y_ald C hP (by decide) ms_12 dX12_copies_12 h (fun h => ?_)
      refine y_ast C hP hD hS (by decide) ms_42 dX12_copies_13 h (fun g2 H locs h hP hD hS => ?_)
      refine lv_iinc (v := (v3 + 1)) (lv' := [(3, .int (v3 + 1)), (1, .ref (a 12)), (2, .ref (a 42))]) hx hb dX12_copies_14 hl (k := 2) rfl rfl (by decide) rfl (fun ls hl => ?_)
      refine lv_goto (tgt := 2) hx hb dX12_copies_17 (by decide) ?_
      exact ih2 ((v3 + 1), g2, L) h H locs ls hP hD hS (lv_sub hl [1, 2, 0] rfl)
  exact lp2 trivial fu (0, g, L) h H locs ls hP hD hS (lv_sub hl [2, 3, 0] rfl)
def fX12_copies_42_12_s2 (fu : Nat) (k2 : Int32 × (Nat → Nat → Int32) × (Nat → Nat → Int64) → Option ((Unit) × zS)) (v3 : Int32) (g : Nat → Nat → Int32) (L : Nat → Nat → Int64) : Option ((Unit) × zS) :=
  if 48 ≤ (v3 : Int32) then some ((), (g, L))
  else ck v3 48 (
  ck v3 48 (sti g 12 (Int32.toNatClampNeg v3) (g 42 (Int32.toNatClampNeg v3)) (fun g2 =>
  k2 ((v3 + 1), g2, L))))
def fX12_copies_42_12_l2 (fu : Nat) (v3 : Int32) (g : Nat → Nat → Int32) (L : Nat → Nat → Int64) : Option ((Unit) × zS) :=
  whileK (fun k v => fX12_copies_42_12_s2 fu k v.1 v.2.1 v.2.2) fu (v3, g, L)
def fX12_copies_42_12 (fu : Nat) (g : Nat → Nat → Int32) (L : Nat → Nat → Int64) : Option ((Unit) × zS) :=
  fX12_copies_42_12_l2 fu 0 g L
set_option maxHeartbeats 4000000 in
set_option maxRecDepth 100000 in
theorem rX12_copies_42_12 (l : Launch) (G : kG) (sz : Nat) (a : Nat → Nat) (fu : Nat) (g : Nat → Nat → Int32) (L : Nat → Nat → Int64) (res : Unit) (s9 : zS) (h : fX12_copies_42_12 fu g L = some (res, s9)) : kM l yX12_copies cX12_copies 4 none { frames := 6, cells := 0, slots := 0, locals := 110 } G [.ref (a 0), .ref (a 42), .ref (a 12)] (zw G MS 51 a g L) sz (kQv G (S := Unit) (fun _ => True) (fun _ => zw G MS 51 a s9.1 s9.2)) := by
  refine kM.of (by decide) (Nat.le_of_ble_eq_true rfl) ?_
  intro p e s m below meth c A ls H C hr hlk hnm hP hD hS hl
  have C : kC G p s m c cX12_copies 4 RX12 A := C
  have hx := C.1
  have hb := C.2.1
  have hl : lv_has ls 4 [(0, .ref (a 0)), (1, .ref (a 42)), (2, .ref (a 12))] := hl
  obtain ⟨locs, hlocs⟩ : ∃ q : List Loc, q = [] := ⟨_, rfl⟩
  rw [← hlocs] at hS
  rw [← hlocs]
  unfold fX12_copies_42_12 at h
  refine lv_iconst (v := 0) hx hb dX12_copies_0 (by decide) ?_
  refine lv_istore_n (lv' := [(3, .int 0), (0, .ref (a 0)), (1, .ref (a 42)), (2, .ref (a 12))]) hx hb dX12_copies_1 rfl hl (by decide) rfl (fun ls hl => ?_)
  have lp2 : ∀ (_ : True), ∀ (n : Nat) (v : Int32 × (Nat → Nat → Int32) × (Nat → Nat → Int64)), whileK (fun k v => fX12_copies_42_12_s2 fu k v.1 v.2.1 v.2.2) n v = some (res, s9) → ∀ (H : Heap) (locs : List Loc) (ls : Array Slot), va_P G.1 vwCl (zw G MS 51 a (v.2.1) (v.2.2)) H → va_D A (zw G MS 51 a (v.2.1) (v.2.2)) → va_S A s.heap H locs → lv_has ls 4 [(1, .ref (a 42)), (2, .ref (a 12)), (3, .int (v.1))] → W p l e { frames := 6, cells := 0, slots := 0, locals := 110 } s m [.ref (a 0), .ref (a 42), .ref (a 12)].toArray below meth c H locs 0 0 (MQ below ((kQv G (S := Unit) (fun _ => True) (fun _ => zw G MS 51 a s9.1 s9.2)) A) [.ref (a 0), .ref (a 42), .ref (a 12)].toArray s 0 0 A) (F0 m 2 ls []) := by
    intro _
    refine while_ind (fun k2 ih2 v h => ?_)
    obtain ⟨v3, g, L⟩ := v
    intro H locs ls hP hD hS hl
    have h : fX12_copies_42_12_s2 fu k2 v3 g L = some (res, s9) := h
    have hP : va_P G.1 vwCl (zw G MS 51 a g L) H := hP
    have hD : va_D A (zw G MS 51 a g L) := hD
    have hl : lv_has ls 4 [(1, .ref (a 42)), (2, .ref (a 12)), (3, .int v3)] := hl
    show W p l e { frames := 6, cells := 0, slots := 0, locals := 110 } s m [.ref (a 0), .ref (a 42), .ref (a 12)].toArray below meth c H locs 0 0 (MQ below ((kQv G (S := Unit) (fun _ => True) (fun _ => zw G MS 51 a s9.1 s9.2)) A) [.ref (a 0), .ref (a 42), .ref (a 12)].toArray s 0 0 A) (F0 m 2 ls [])
    unfold fX12_copies_42_12_s2 at h
    refine lv_iload_n hx hb dX12_copies_2 rfl (lv_at hl 2 rfl) ?_
    refine lv_aload_n hx hb dX12_copies_3 rfl (lv_at hl 0 rfl) ?_
    refine x_alen (v := 48) C hP (by decide) ms_42 rfl dX12_copies_4 ?_
    refine lv_icmp_ge (x := v3) (y := 48) (tgt := 20) hx hb dX12_copies_5 (by decide) (fun c1 => ?_) (fun c1 => ?_)
    ·
      have h := ite_t c1 h
      exact y_vret C hr hlk hP hD hS h (Nat.le_of_ble_eq_true rfl) (Nat.le_of_ble_eq_true rfl) dX12_copies_20
    ·
      have h := ite_e c1 h
      refine lv_aload_n hx hb dX12_copies_8 rfl (lv_at hl 1 rfl) ?_
      refine lv_iload_n hx hb dX12_copies_9 rfl (lv_at hl 2 rfl) ?_
      refine lv_aload_n hx hb dX12_copies_10 rfl (lv_at hl 0 rfl) ?_
      refine lv_iload_n hx hb dX12_copies_11 rfl (lv_at hl 2 rfl) ?_
      refine y_ald C hP (by decide) ms_42 dX12_copies_12 h (fun h => ?_)
      refine y_ast C hP hD hS (by decide) ms_12 dX12_copies_13 h (fun g2 H locs h hP hD hS => ?_)
      refine lv_iinc (v := (v3 + 1)) (lv' := [(3, .int (v3 + 1)), (1, .ref (a 42)), (2, .ref (a 12))]) hx hb dX12_copies_14 hl (k := 2) rfl rfl (by decide) rfl (fun ls hl => ?_)
      refine lv_goto (tgt := 2) hx hb dX12_copies_17 (by decide) ?_
      exact ih2 ((v3 + 1), g2, L) h H locs ls hP hD hS (lv_sub hl [1, 2, 0] rfl)
  exact lp2 trivial fu (0, g, L) h H locs ls hP hD hS (lv_sub hl [2, 3, 0] rfl)
def fX12_bell_p70 (fu : Nat) (k41 : Int32 × (Nat → Nat → Int32) × (Nat → Nat → Int64) → Option ((Int32) × zS)) (v1 : Int32) (v2 : Int32) (v3 : Int32) (g : Nat → Nat → Int32) (L : Nat → Nat → Int64) : Option ((Int32) × zS) :=
  k41 ((v3 + 1), g, L)
def fX12_bell_s41 (fu : Nat) (v1 : Int32) (v2 : Int32) (k41 : Int32 × (Nat → Nat → Int32) × (Nat → Nat → Int64) → Option ((Int32) × zS)) (v3 : Int32) (g : Nat → Nat → Int32) (L : Nat → Nat → Int64) : Option ((Int32) × zS) :=
  if (g 0 1) ≤ v3 then cb (fX12_lost fu g L) (fun x20 g21 L22 =>
  lti (v2 - x20) (fun x24 =>
  cb (fX12_copies_42_12 fu g21 L22) (fun x25 g26 L27 =>
  some (x24, (g26, L27)))))
  else ck (0 + v3) 48 (
  if (g 12 (Int32.toNatClampNeg (0 + v3))) ≤ v1 then fX12_bell_p70 fu k41 v1 v2 v3 g L
  else ck (0 + v3) 48 (sti g 12 (Int32.toNatClampNeg (0 + v3)) v1 (fun g30 =>
  fX12_bell_p70 fu k41 v1 v2 v3 g30 L)))
def fX12_bell_l41 (fu : Nat) (v1 : Int32) (v2 : Int32) (v3 : Int32) (g : Nat → Nat → Int32) (L : Nat → Nat → Int64) : Option ((Int32) × zS) :=
  whileK (fun k v => fX12_bell_s41 fu v1 v2 k v.1 v.2.1 v.2.2) fu (v3, g, L)
def fX12_bell (fu : Nat) (p1 : Int32) (g : Nat → Nat → Int32) (L : Nat → Nat → Int64) : Option ((Int32) × zS) :=
  sti g 0 0 0 (fun g1 =>
  cb (fX12_within fu p1 0 60 g1 L) (fun x2 g3 L4 =>
  cb (fX12_right fu x2 1 g3 L4) (fun x6 g7 L8 =>
  if x6 = 0 then some (0, (g7, L8))
  else cb (fX12_lost fu g7 L8) (fun x11 g12 L13 =>
  cb (fX12_copies_12_42 fu g12 L13) (fun x15 g16 L17 =>
  fX12_bell_l41 fu p1 x11 0 g16 L17)))))
set_option maxHeartbeats 4000000 in
set_option maxRecDepth 100000 in
theorem rX12_bell (l : Launch) (G : kG) (sz : Nat) (a : Nat → Nat) (fu : Nat) (g : Nat → Nat → Int32) (L : Nat → Nat → Int64) (p1 : Int32) (res : Int32) (s9 : zS) (h : fX12_bell fu p1 g L = some (res, s9)) : kM l yX12_bell cX12_bell 4 (some .int) { frames := 12, cells := 0, slots := 0, locals := 250 } G [.ref (a 0), .int p1] (zw G MS 51 a g L) sz (kQi G (S := Unit) (fun r' _ => r' = res) (fun _ => zw G MS 51 a s9.1 s9.2)) := by
  refine kM.of (by decide) (Nat.le_of_ble_eq_true rfl) ?_
  intro p e s m below meth c A ls H C hr hlk hnm hP hD hS hl
  have C : kC G p s m c cX12_bell 4 RX12 A := C
  have hx := C.1
  have hb := C.2.1
  have hl : lv_has ls 4 [(0, .ref (a 0)), (1, .int p1)] := hl
  obtain ⟨locs, hlocs⟩ : ∃ q : List Loc, q = [] := ⟨_, rfl⟩
  rw [← hlocs] at hS
  rw [← hlocs]
  unfold fX12_bell at h
  refine lv_aload_n hx hb dX12_bell_0 rfl (lv_at hl 0 rfl) ?_
  refine lv_iconst (v := 0) hx hb dX12_bell_1 (by decide) ?_
  refine y_puti (Or.inl fl_X12_177) ft_X12_0 C hP hD hS (by decide) ms_0 rfl rfl rfl dX12_bell_2 h (fun g1 H locs h hP hD hS => ?_)
  refine lv_aload_n hx hb dX12_bell_5 rfl (lv_at hl 0 rfl) ?_
  refine lv_iload_n hx hb dX12_bell_6 rfl (lv_at hl 1 rfl) ?_
  refine lv_iconst (v := 0) hx hb dX12_bell_7 (by decide) ?_
  refine lv_bipush (v := 60) hx hb dX12_bell_8 (by decide) ?_
  obtain ⟨z_, g3, L4, hf5, h⟩ := cb_some h
  refine x_callSi (rest := [.ref (a 0)]) li_X12_392 C (rX12_within l G H.size a fu g1 L p1 0 60 z_ (g3, L4) hf5) (kR rfl) hP hD hS rfl hl.1 rfl (Nat.le_of_ble_eq_true rfl) dX12_bell_10 (fun x2 u_ H locs e_ hP hD hS => ?_)
  have e_ : x2 = z_ := e_
  subst e_
  have hP : va_P G.1 vwCl (zw G MS 51 a g3 L4) H := hP
  have hD : va_D A (zw G MS 51 a g3 L4) := hD
  refine lv_iconst (v := 1) hx hb dX12_bell_13 (by decide) ?_
  obtain ⟨z_, g7, L8, hf9, h⟩ := cb_some h
  refine x_callVi (rest := []) li_X12_328 C (rX12_right l G H.size a fu g3 L4 x2 1 z_ (g7, L8) hf9) (kR rfl) hP hD hS 0 12 rfl (zat (by decide) ms_0) rfl hl.1 rfl (Nat.le_of_ble_eq_true rfl) dX12_bell_14 (fun x6 u_ H locs e_ hP hD hS => ?_)
  have e_ : x6 = z_ := e_
  subst e_
  have hP : va_P G.1 vwCl (zw G MS 51 a g7 L8) H := hP
  have hD : va_D A (zw G MS 51 a g7 L8) := hD
  refine lv_if_ne (x := x6) (tgt := 22) hx hb dX12_bell_17 (by decide) (fun c10 => ?_) (fun c10 => ?_)
  ·
    have h := ite_e c10 h
    refine lv_aload_n hx hb dX12_bell_22 rfl (lv_at hl 0 rfl) ?_
    obtain ⟨z_, g12, L13, hf14, h⟩ := cb_some h
    refine x_callVi (rest := []) li_X12_399 C (rX12_lost l G H.size a fu g7 L8 z_ (g12, L13) hf14) (kR rfl) hP hD hS 0 12 rfl (zat (by decide) ms_0) rfl hl.1 rfl (Nat.le_of_ble_eq_true rfl) dX12_bell_23 (fun x11 u_ H locs e_ hP hD hS => ?_)
    have e_ : x11 = z_ := e_
    subst e_
    have hP : va_P G.1 vwCl (zw G MS 51 a g12 L13) H := hP
    have hD : va_D A (zw G MS 51 a g12 L13) := hD
    refine lv_istore_n (lv' := [(2, .int x11), (0, .ref (a 0)), (1, .int p1)]) hx hb dX12_bell_26 rfl hl (by decide) rfl (fun ls hl => ?_)
    refine lv_aload_n hx hb dX12_bell_27 rfl (lv_at hl 1 rfl) ?_
    refine lv_aload_n hx hb dX12_bell_28 rfl (lv_at hl 1 rfl) ?_
    refine x_getr (Or.inl fl_X12_50) C hP (by decide) ms_0 rfl dX12_bell_29 ?_
    refine lv_aload_n hx hb dX12_bell_32 rfl (lv_at hl 1 rfl) ?_
    refine x_getr (Or.inl fl_X12_150) C hP (by decide) ms_0 rfl dX12_bell_33 ?_
    obtain ⟨z_, g16, L17, hf18, h⟩ := cb_some h
    refine x_callVv (rest := []) li_X12_341 C (rX12_copies_12_42 l G H.size a fu g12 L13 z_ (g16, L17) hf18) (kR rfl) hP hD hS 0 12 rfl (zat (by decide) ms_0) rfl hl.1 rfl (Nat.le_of_ble_eq_true rfl) dX12_bell_36 (fun u_ H locs e_ hP hD hS => ?_)
    have hP : va_P G.1 vwCl (zw G MS 51 a g16 L17) H := hP
    have hD : va_D A (zw G MS 51 a g16 L17) := hD
    refine lv_iconst (v := 0) hx hb dX12_bell_39 (by decide) ?_
    refine lv_istore_n (lv' := [(3, .int 0), (2, .int x11), (0, .ref (a 0)), (1, .int p1)]) hx hb dX12_bell_40 rfl hl (by decide) rfl (fun ls hl => ?_)
    have lp41 : ∀ (v1 : Int32) (v2 : Int32), ∀ (n : Nat) (v : Int32 × (Nat → Nat → Int32) × (Nat → Nat → Int64)), whileK (fun k v => fX12_bell_s41 fu v1 v2 k v.1 v.2.1 v.2.2) n v = some (res, s9) → ∀ (H : Heap) (locs : List Loc) (ls : Array Slot), va_P G.1 vwCl (zw G MS 51 a (v.2.1) (v.2.2)) H → va_D A (zw G MS 51 a (v.2.1) (v.2.2)) → va_S A s.heap H locs → lv_has ls 4 [(0, .ref (a 0)), (1, .int v1), (2, .int v2), (3, .int (v.1))] → W p l e { frames := 12, cells := 0, slots := 0, locals := 250 } s m [.ref (a 0), .int p1].toArray below meth c H locs 0 0 (MQ below ((kQi G (S := Unit) (fun r' _ => r' = res) (fun _ => zw G MS 51 a s9.1 s9.2)) A) [.ref (a 0), .int p1].toArray s 0 0 A) (F0 m 41 ls []) := by
      intro v1 v2
      refine while_ind (fun k41 ih41 v h => ?_)
      obtain ⟨v3, g, L⟩ := v
      intro H locs ls hP hD hS hl
      have h : fX12_bell_s41 fu v1 v2 k41 v3 g L = some (res, s9) := h
      have hP : va_P G.1 vwCl (zw G MS 51 a g L) H := hP
      have hD : va_D A (zw G MS 51 a g L) := hD
      have hl : lv_has ls 4 [(0, .ref (a 0)), (1, .int v1), (2, .int v2), (3, .int v3)] := hl
      show W p l e { frames := 12, cells := 0, slots := 0, locals := 250 } s m [.ref (a 0), .int p1].toArray below meth c H locs 0 0 (MQ below ((kQi G (S := Unit) (fun r' _ => r' = res) (fun _ => zw G MS 51 a s9.1 s9.2)) A) [.ref (a 0), .int p1].toArray s 0 0 A) (F0 m 41 ls [])
      unfold fX12_bell_s41 at h
      refine lv_iload_n hx hb dX12_bell_41 rfl (lv_at hl 3 rfl) ?_
      refine lv_aload_n hx hb dX12_bell_42 rfl (lv_at hl 0 rfl) ?_
      refine x_getv (v := .int (g 0 1)) (Or.inl fl_X12_335) C hP (by decide) ms_0 rfl dX12_bell_43 ?_
      refine lv_icmp_ge (x := v3) (y := (g 0 1)) (tgt := 76) hx hb dX12_bell_46 (by decide) (fun c19 => ?_) (fun c19 => ?_)
      ·
        have h := ite_t c19 h
        refine lv_iload_n hx hb dX12_bell_76 rfl (lv_at hl 2 rfl) ?_
        refine lv_aload_n hx hb dX12_bell_77 rfl (lv_at hl 0 rfl) ?_
        obtain ⟨z_, g21, L22, hf23, h⟩ := cb_some h
        refine x_callVi (rest := [.int v2]) li_X12_399 C (rX12_lost l G H.size a fu g L z_ (g21, L22) hf23) (kR rfl) hP hD hS 0 12 rfl (zat (by decide) ms_0) rfl hl.1 rfl (Nat.le_of_ble_eq_true rfl) dX12_bell_78 (fun x20 u_ H locs e_ hP hD hS => ?_)
        have e_ : x20 = z_ := e_
        subst e_
        have hP : va_P G.1 vwCl (zw G MS 51 a g21 L22) H := hP
        have hD : va_D A (zw G MS 51 a g21 L22) := hD
        refine lv_isub hx hb dX12_bell_81 ?_
        refine y_let h (fun x24 h => ?_)
        refine lv_istore_n (lv' := [(2, .int x24), (0, .ref (a 0)), (1, .int v1), (3, .int v3)]) hx hb dX12_bell_82 rfl hl (by decide) rfl (fun ls hl => ?_)
        refine lv_aload_n hx hb dX12_bell_83 rfl (lv_at hl 1 rfl) ?_
        refine lv_aload_n hx hb dX12_bell_84 rfl (lv_at hl 1 rfl) ?_
        refine x_getr (Or.inl fl_X12_150) C hP (by decide) ms_0 rfl dX12_bell_85 ?_
        refine lv_aload_n hx hb dX12_bell_88 rfl (lv_at hl 1 rfl) ?_
        refine x_getr (Or.inl fl_X12_50) C hP (by decide) ms_0 rfl dX12_bell_89 ?_
        obtain ⟨z_, g26, L27, hf28, h⟩ := cb_some h
        refine x_callVv (rest := []) li_X12_341 C (rX12_copies_42_12 l G H.size a fu g21 L22 z_ (g26, L27) hf28) (kR rfl) hP hD hS 0 12 rfl (zat (by decide) ms_0) rfl hl.1 rfl (Nat.le_of_ble_eq_true rfl) dX12_bell_92 (fun u_ H locs e_ hP hD hS => ?_)
        have hP : va_P G.1 vwCl (zw G MS 51 a g26 L27) H := hP
        have hD : va_D A (zw G MS 51 a g26 L27) := hD
        refine lv_iload_n hx hb dX12_bell_95 rfl (lv_at hl 0 rfl) ?_
        exact y_iret C hr hlk hP hD hS h (Nat.le_of_ble_eq_true rfl) (Nat.le_of_ble_eq_true rfl) dX12_bell_96
      ·
        have h := ite_e c19 h
        refine lv_aload_n hx hb dX12_bell_49 rfl (lv_at hl 0 rfl) ?_
        refine x_getr (Or.inl fl_X12_50) C hP (by decide) ms_0 rfl dX12_bell_50 ?_
        refine lv_iconst (v := 0) hx hb dX12_bell_53 (by decide) ?_
        refine lv_iload_n hx hb dX12_bell_54 rfl (lv_at hl 3 rfl) ?_
        refine lv_iadd hx hb dX12_bell_55 ?_
        refine y_ald C hP (by decide) ms_12 dX12_bell_56 h (fun h => ?_)
        refine lv_iload_n hx hb dX12_bell_57 rfl (lv_at hl 1 rfl) ?_
        have J70 : ∀ (v3 : Int32) (g : Nat → Nat → Int32) (L : Nat → Nat → Int64) (H : Heap) (locs : List Loc) (ls : Array Slot), fX12_bell_p70 fu k41 v1 v2 v3 g L = some (res, s9) → va_P G.1 vwCl (zw G MS 51 a g L) H → va_D A (zw G MS 51 a g L) → va_S A s.heap H locs → lv_has ls 4 [(0, .ref (a 0)), (1, .int v1), (2, .int v2), (3, .int v3)] → W p l e { frames := 12, cells := 0, slots := 0, locals := 250 } s m [.ref (a 0), .int p1].toArray below meth c H locs 0 0 (MQ below ((kQi G (S := Unit) (fun r' _ => r' = res) (fun _ => zw G MS 51 a s9.1 s9.2)) A) [.ref (a 0), .int p1].toArray s 0 0 A) (F0 m 70 ls []) := by
          intro v3 g L H locs ls h hP hD hS hl
          unfold fX12_bell_p70 at h
          refine lv_iinc (v := (v3 + 1)) (lv' := [(3, .int (v3 + 1)), (0, .ref (a 0)), (1, .int v1), (2, .int v2)]) hx hb dX12_bell_70 hl (k := 3) rfl rfl (by decide) rfl (fun ls hl => ?_)
          refine lv_goto (tgt := 41) hx hb dX12_bell_73 (by decide) ?_
          exact ih41 ((v3 + 1), g, L) h H locs ls hP hD hS (lv_sub hl [1, 2, 3, 0] rfl)
        refine lv_icmp_le (x := (g 12 (Int32.toNatClampNeg (0 + v3)))) (y := v1) (tgt := 70) hx hb dX12_bell_58 (by decide) (fun c29 => ?_) (fun c29 => ?_)
        ·
          have h := ite_t c29 h
          exact J70 v3 g L H locs ls h hP hD hS (lv_sub hl [0, 1, 2, 3] rfl)
        ·
          have h := ite_e c29 h
          refine lv_aload_n hx hb dX12_bell_61 rfl (lv_at hl 0 rfl) ?_
          refine x_getr (Or.inl fl_X12_50) C hP (by decide) ms_0 rfl dX12_bell_62 ?_
          refine lv_iconst (v := 0) hx hb dX12_bell_65 (by decide) ?_
          refine lv_iload_n hx hb dX12_bell_66 rfl (lv_at hl 3 rfl) ?_
          refine lv_iadd hx hb dX12_bell_67 ?_
          refine lv_iload_n hx hb dX12_bell_68 rfl (lv_at hl 1 rfl) ?_
          refine y_ast C hP hD hS (by decide) ms_12 dX12_bell_69 h (fun g30 H locs h hP hD hS => ?_)
          exact J70 v3 g30 L H locs ls h hP hD hS (lv_sub hl [0, 1, 2, 3] rfl)
    exact lp41 p1 x11 fu (0, g16, L17) h H locs ls hP hD hS (lv_sub hl [2, 3, 1, 0] rfl)
  ·
    have h := ite_t c10 h
    refine lv_iconst (v := 0) hx hb dX12_bell_20 (by decide) ?_
    exact y_iret C hr hlk hP hD hS h (Nat.le_of_ble_eq_true rfl) (Nat.le_of_ble_eq_true rfl) dX12_bell_21
def fX12_harm_p21 (fu : Nat) (g : Nat → Nat → Int32) (L : Nat → Nat → Int64) : Option ((Int32) × zS) :=
  some (0, (g, L))
def fX12_harm (fu : Nat) (p1 : Int32) (p2 : Int32) (g : Nat → Nat → Int32) (L : Nat → Nat → Int64) : Option ((Int32) × zS) :=
  sti g 0 0 0 (fun g1 =>
  cb (fX12_isLesson fu p1 g1 L) (fun x2 g3 L4 =>
  if x2 = 0 then fX12_harm_p21 fu g3 L4
  else cb (fX12_isLesson fu p2 g3 L4) (fun x7 g8 L9 =>
  if x7 = 0 then fX12_harm_p21 fu g8 L9
  else cb (fX12_works0 fu g8 L9) (fun x12 g13 L14 =>
  cb (fX12_late fu p2 g13 L14) (fun x16 g17 L18 =>
  ck (0 + p1) 48 (
  lti (g17 12 (Int32.toNatClampNeg (0 + p1))) (fun x20 =>
  ck (0 + p1) 48 (sti g17 12 (Int32.toNatClampNeg (0 + p1)) 0 (fun g21 =>
  cb (fX12_works0 fu g21 L18) (fun x22 g23 L24 =>
  ck (0 + p1) 48 (sti g23 12 (Int32.toNatClampNeg (0 + p1)) x20 (fun g26 =>
  cb (fX12_late fu p2 g26 L24) (fun x27 g28 L29 =>
  some ((x16 - x27), (g28, L29)))))))))))))))
set_option maxHeartbeats 4000000 in
set_option maxRecDepth 100000 in
theorem rX12_harm (l : Launch) (G : kG) (sz : Nat) (a : Nat → Nat) (fu : Nat) (g : Nat → Nat → Int32) (L : Nat → Nat → Int64) (p1 : Int32) (p2 : Int32) (res : Int32) (s9 : zS) (h : fX12_harm fu p1 p2 g L = some (res, s9)) : kM l yX12_harm cX12_harm 5 (some .int) { frames := 11, cells := 0, slots := 0, locals := 228 } G [.ref (a 0), .int p1, .int p2] (zw G MS 51 a g L) sz (kQi G (S := Unit) (fun r' _ => r' = res) (fun _ => zw G MS 51 a s9.1 s9.2)) := by
  refine kM.of (by decide) (Nat.le_of_ble_eq_true rfl) ?_
  intro p e s m below meth c A ls H C hr hlk hnm hP hD hS hl
  have C : kC G p s m c cX12_harm 5 RX12 A := C
  have hx := C.1
  have hb := C.2.1
  have hl : lv_has ls 5 [(0, .ref (a 0)), (1, .int p1), (2, .int p2)] := hl
  obtain ⟨locs, hlocs⟩ : ∃ q : List Loc, q = [] := ⟨_, rfl⟩
  rw [← hlocs] at hS
  rw [← hlocs]
  unfold fX12_harm at h
  refine lv_aload_n hx hb dX12_harm_0 rfl (lv_at hl 0 rfl) ?_
  refine lv_iconst (v := 0) hx hb dX12_harm_1 (by decide) ?_
  refine y_puti (Or.inl fl_X12_177) ft_X12_0 C hP hD hS (by decide) ms_0 rfl rfl rfl dX12_harm_2 h (fun g1 H locs h hP hD hS => ?_)
  refine lv_aload_n hx hb dX12_harm_5 rfl (lv_at hl 0 rfl) ?_
  refine lv_iload_n hx hb dX12_harm_6 rfl (lv_at hl 1 rfl) ?_
  obtain ⟨z_, g3, L4, hf5, h⟩ := cb_some h
  refine x_callVi (rest := []) li_X12_402 C (rX12_isLesson l G H.size a fu g1 L p1 z_ (g3, L4) hf5) (kR rfl) hP hD hS 0 12 rfl (zat (by decide) ms_0) rfl hl.1 rfl (Nat.le_of_ble_eq_true rfl) dX12_harm_7 (fun x2 u_ H locs e_ hP hD hS => ?_)
  have e_ : x2 = z_ := e_
  subst e_
  have hP : va_P G.1 vwCl (zw G MS 51 a g3 L4) H := hP
  have hD : va_D A (zw G MS 51 a g3 L4) := hD
  have J21 : ∀ (g : Nat → Nat → Int32) (L : Nat → Nat → Int64) (H : Heap) (locs : List Loc) (ls : Array Slot), fX12_harm_p21 fu g L = some (res, s9) → va_P G.1 vwCl (zw G MS 51 a g L) H → va_D A (zw G MS 51 a g L) → va_S A s.heap H locs → lv_has ls 5 [] → W p l e { frames := 11, cells := 0, slots := 0, locals := 228 } s m [.ref (a 0), .int p1, .int p2].toArray below meth c H locs 0 0 (MQ below ((kQi G (S := Unit) (fun r' _ => r' = res) (fun _ => zw G MS 51 a s9.1 s9.2)) A) [.ref (a 0), .int p1, .int p2].toArray s 0 0 A) (F0 m 21 ls []) := by
    intro g L H locs ls h hP hD hS hl
    unfold fX12_harm_p21 at h
    refine lv_iconst (v := 0) hx hb dX12_harm_21 (by decide) ?_
    exact y_iret C hr hlk hP hD hS h (Nat.le_of_ble_eq_true rfl) (Nat.le_of_ble_eq_true rfl) dX12_harm_22
  refine lv_if_eq (x := x2) (tgt := 21) hx hb dX12_harm_10 (by decide) (fun c6 => ?_) (fun c6 => ?_)
  ·
    have h := ite_t c6 h
    exact J21 g3 L4 H locs ls h hP hD hS (lv_sub hl [] rfl)
  ·
    have h := ite_e c6 h
    refine lv_aload_n hx hb dX12_harm_13 rfl (lv_at hl 0 rfl) ?_
    refine lv_iload_n hx hb dX12_harm_14 rfl (lv_at hl 2 rfl) ?_
    obtain ⟨z_, g8, L9, hf10, h⟩ := cb_some h
    refine x_callVi (rest := []) li_X12_402 C (rX12_isLesson l G H.size a fu g3 L4 p2 z_ (g8, L9) hf10) (kR rfl) hP hD hS 0 12 rfl (zat (by decide) ms_0) rfl hl.1 rfl (Nat.le_of_ble_eq_true rfl) dX12_harm_15 (fun x7 u_ H locs e_ hP hD hS => ?_)
    have e_ : x7 = z_ := e_
    subst e_
    have hP : va_P G.1 vwCl (zw G MS 51 a g8 L9) H := hP
    have hD : va_D A (zw G MS 51 a g8 L9) := hD
    refine lv_if_ne (x := x7) (tgt := 23) hx hb dX12_harm_18 (by decide) (fun c11 => ?_) (fun c11 => ?_)
    ·
      have h := ite_e c11 h
      refine lv_aload_n hx hb dX12_harm_23 rfl (lv_at hl 0 rfl) ?_
      obtain ⟨z_, g13, L14, hf15, h⟩ := cb_some h
      refine x_callVv (rest := []) li_X12_386 C (rX12_works0 l G H.size a fu g8 L9 z_ (g13, L14) hf15) (kR rfl) hP hD hS 0 12 rfl (zat (by decide) ms_0) rfl hl.1 rfl (Nat.le_of_ble_eq_true rfl) dX12_harm_24 (fun u_ H locs e_ hP hD hS => ?_)
      have hP : va_P G.1 vwCl (zw G MS 51 a g13 L14) H := hP
      have hD : va_D A (zw G MS 51 a g13 L14) := hD
      refine lv_aload_n hx hb dX12_harm_27 rfl (lv_at hl 0 rfl) ?_
      refine lv_iload_n hx hb dX12_harm_28 rfl (lv_at hl 2 rfl) ?_
      obtain ⟨z_, g17, L18, hf19, h⟩ := cb_some h
      refine x_callVi (rest := []) li_X12_389 C (rX12_late l G H.size a fu g13 L14 p2 z_ (g17, L18) hf19) (kR rfl) hP hD hS 0 12 rfl (zat (by decide) ms_0) rfl hl.1 rfl (Nat.le_of_ble_eq_true rfl) dX12_harm_29 (fun x16 u_ H locs e_ hP hD hS => ?_)
      have e_ : x16 = z_ := e_
      subst e_
      have hP : va_P G.1 vwCl (zw G MS 51 a g17 L18) H := hP
      have hD : va_D A (zw G MS 51 a g17 L18) := hD
      refine lv_istore_n (lv' := [(3, .int x16), (0, .ref (a 0)), (1, .int p1), (2, .int p2)]) hx hb dX12_harm_32 rfl hl (by decide) rfl (fun ls hl => ?_)
      refine lv_aload_n hx hb dX12_harm_33 rfl (lv_at hl 1 rfl) ?_
      refine x_getr (Or.inl fl_X12_50) C hP (by decide) ms_0 rfl dX12_harm_34 ?_
      refine lv_iconst (v := 0) hx hb dX12_harm_37 (by decide) ?_
      refine lv_iload_n hx hb dX12_harm_38 rfl (lv_at hl 2 rfl) ?_
      refine lv_iadd hx hb dX12_harm_39 ?_
      refine y_ald C hP (by decide) ms_12 dX12_harm_40 h (fun h => ?_)
      refine y_let h (fun x20 h => ?_)
      refine lv_istore (lv' := [(4, .int x20), (3, .int x16), (0, .ref (a 0)), (1, .int p1), (2, .int p2)]) hx hb dX12_harm_41 hl (by decide) rfl (fun ls hl => ?_)
      refine lv_aload_n hx hb dX12_harm_43 rfl (lv_at hl 2 rfl) ?_
      refine x_getr (Or.inl fl_X12_50) C hP (by decide) ms_0 rfl dX12_harm_44 ?_
      refine lv_iconst (v := 0) hx hb dX12_harm_47 (by decide) ?_
      refine lv_iload_n hx hb dX12_harm_48 rfl (lv_at hl 3 rfl) ?_
      refine lv_iadd hx hb dX12_harm_49 ?_
      refine lv_iconst (v := 0) hx hb dX12_harm_50 (by decide) ?_
      refine y_ast C hP hD hS (by decide) ms_12 dX12_harm_51 h (fun g21 H locs h hP hD hS => ?_)
      refine lv_aload_n hx hb dX12_harm_52 rfl (lv_at hl 2 rfl) ?_
      obtain ⟨z_, g23, L24, hf25, h⟩ := cb_some h
      refine x_callVv (rest := []) li_X12_386 C (rX12_works0 l G H.size a fu g21 L18 z_ (g23, L24) hf25) (kR rfl) hP hD hS 0 12 rfl (zat (by decide) ms_0) rfl hl.1 rfl (Nat.le_of_ble_eq_true rfl) dX12_harm_53 (fun u_ H locs e_ hP hD hS => ?_)
      have hP : va_P G.1 vwCl (zw G MS 51 a g23 L24) H := hP
      have hD : va_D A (zw G MS 51 a g23 L24) := hD
      refine lv_aload_n hx hb dX12_harm_56 rfl (lv_at hl 2 rfl) ?_
      refine x_getr (Or.inl fl_X12_50) C hP (by decide) ms_0 rfl dX12_harm_57 ?_
      refine lv_iconst (v := 0) hx hb dX12_harm_60 (by decide) ?_
      refine lv_iload_n hx hb dX12_harm_61 rfl (lv_at hl 3 rfl) ?_
      refine lv_iadd hx hb dX12_harm_62 ?_
      refine lv_iload hx hb dX12_harm_63 (lv_at hl 0 rfl) ?_
      refine y_ast C hP hD hS (by decide) ms_12 dX12_harm_65 h (fun g26 H locs h hP hD hS => ?_)
      refine lv_iload_n hx hb dX12_harm_66 rfl (lv_at hl 1 rfl) ?_
      refine lv_aload_n hx hb dX12_harm_67 rfl (lv_at hl 2 rfl) ?_
      refine lv_iload_n hx hb dX12_harm_68 rfl (lv_at hl 4 rfl) ?_
      obtain ⟨z_, g28, L29, hf30, h⟩ := cb_some h
      refine x_callVi (rest := [.int x16]) li_X12_389 C (rX12_late l G H.size a fu g26 L24 p2 z_ (g28, L29) hf30) (kR rfl) hP hD hS 0 12 rfl (zat (by decide) ms_0) rfl hl.1 rfl (Nat.le_of_ble_eq_true rfl) dX12_harm_69 (fun x27 u_ H locs e_ hP hD hS => ?_)
      have e_ : x27 = z_ := e_
      subst e_
      have hP : va_P G.1 vwCl (zw G MS 51 a g28 L29) H := hP
      have hD : va_D A (zw G MS 51 a g28 L29) := hD
      refine lv_isub hx hb dX12_harm_72 ?_
      exact y_iret C hr hlk hP hD hS h (Nat.le_of_ble_eq_true rfl) (Nat.le_of_ble_eq_true rfl) dX12_harm_73
    ·
      have h := ite_t c11 h
      exact J21 g8 L9 H locs ls h hP hD hS (lv_sub hl [] rfl)
def fX12_pair_p149 (fu : Nat) (t0 : Int32) (g : Nat → Nat → Int32) (L : Nat → Nat → Int64) : Option ((Int32) × zS) :=
  some (t0, (g, L))
def fX12_pair_p144 (fu : Nat) (v2 : Int32) (g : Nat → Nat → Int32) (L : Nat → Nat → Int64) : Option ((Int32) × zS) :=
  fX12_pair_p149 fu v2 g L
def fX12_pair_p123 (fu : Nat) (k35 : Int32 × Int32 × Int32 × (Nat → Nat → Int32) × (Nat → Nat → Int64) → Option ((Int32) × zS)) (k50 : Int32 × Int32 × Int32 × (Nat → Nat → Int32) × (Nat → Nat → Int64) → Option ((Int32) × zS)) (v1 : Int32) (v2 : Int32) (v3 : Int32) (v4 : Int32) (v5 : Int32) (g : Nat → Nat → Int32) (L : Nat → Nat → Int64) : Option ((Int32) × zS) :=
  k50 (v2, v3, (v5 + 1), g, L)
def fX12_pair_p111 (fu : Nat) (k35 : Int32 × Int32 × Int32 × (Nat → Nat → Int32) × (Nat → Nat → Int64) → Option ((Int32) × zS)) (k50 : Int32 × Int32 × Int32 × (Nat → Nat → Int32) × (Nat → Nat → Int64) → Option ((Int32) × zS)) (v1 : Int32) (v4 : Int32) (v5 : Int32) (v6 : Int32) (g : Nat → Nat → Int32) (L : Nat → Nat → Int64) : Option ((Int32) × zS) :=
  lti ((100 * v4) + v5) (fun x26 =>
  fX12_pair_p123 fu k35 k50 v1 x26 v6 v4 v5 g L)
def fX12_pair_s50 (fu : Nat) (k35 : Int32 × Int32 × Int32 × (Nat → Nat → Int32) × (Nat → Nat → Int64) → Option ((Int32) × zS)) (v1 : Int32) (v4 : Int32) (k50 : Int32 × Int32 × Int32 × (Nat → Nat → Int32) × (Nat → Nat → Int64) → Option ((Int32) × zS)) (v2 : Int32) (v3 : Int32) (v5 : Int32) (g : Nat → Nat → Int32) (L : Nat → Nat → Int64) : Option ((Int32) × zS) :=
  if (g 0 1) ≤ v5 then k35 (v2, v3, (v4 + 1), g, L)
  else ck (0 + v4) 48 (sti g 12 (Int32.toNatClampNeg (0 + v4)) 0 (fun g16 =>
  ck (0 + v5) 48 (sti g16 12 (Int32.toNatClampNeg (0 + v5)) 0 (fun g17 =>
  cb (fX12_lost fu g17 L) (fun x18 g19 L20 =>
  cb (fX12_copies_42_12 fu g19 L20) (fun x22 g23 L24 =>
  if (v2 : Int32) = (-1) then fX12_pair_p111 fu k35 k50 v1 v4 v5 x18 g23 L24
  else if (x18 : Int32) < v3 then fX12_pair_p111 fu k35 k50 v1 v4 v5 x18 g23 L24
  else fX12_pair_p123 fu k35 k50 v1 v2 v3 v4 v5 g23 L24))))))
def fX12_pair_l50 (fu : Nat) (k35 : Int32 × Int32 × Int32 × (Nat → Nat → Int32) × (Nat → Nat → Int64) → Option ((Int32) × zS)) (v1 : Int32) (v4 : Int32) (v2 : Int32) (v3 : Int32) (v5 : Int32) (g : Nat → Nat → Int32) (L : Nat → Nat → Int64) : Option ((Int32) × zS) :=
  whileK (fun k v => fX12_pair_s50 fu k35 v1 v4 k v.1 v.2.1 v.2.2.1 v.2.2.2.1 v.2.2.2.2) fu (v2, v3, v5, g, L)
def fX12_pair_s35 (fu : Nat) (v1 : Int32) (k35 : Int32 × Int32 × Int32 × (Nat → Nat → Int32) × (Nat → Nat → Int64) → Option ((Int32) × zS)) (v2 : Int32) (v3 : Int32) (v4 : Int32) (g : Nat → Nat → Int32) (L : Nat → Nat → Int64) : Option ((Int32) × zS) :=
  if (g 0 1) ≤ v4 then (if (v2 : Int32) = (-1) then fX12_pair_p144 fu v2 g L
  else if v1 = 0 then fX12_pair_p144 fu v2 g L
  else fX12_pair_p149 fu v3 g L)
  else lti (v4 + 1) (fun x14 =>
  fX12_pair_l50 fu k35 v1 v4 v2 v3 x14 g L)
def fX12_pair_l35 (fu : Nat) (v1 : Int32) (v2 : Int32) (v3 : Int32) (v4 : Int32) (g : Nat → Nat → Int32) (L : Nat → Nat → Int64) : Option ((Int32) × zS) :=
  whileK (fun k v => fX12_pair_s35 fu v1 k v.1 v.2.1 v.2.2.1 v.2.2.2.1 v.2.2.2.2) fu (v2, v3, v4, g, L)
def fX12_pair (fu : Nat) (p1 : Int32) (g : Nat → Nat → Int32) (L : Nat → Nat → Int64) : Option ((Int32) × zS) :=
  sti g 0 0 0 (fun g1 =>
  cb (fX12_isWhat fu p1 1 g1 L) (fun x2 g3 L4 =>
  if x2 = 0 then some (0, (g3, L4))
  else cb (fX12_copies_12_42 fu g3 L4) (fun x7 g8 L9 =>
  fX12_pair_l35 fu p1 (-1) 0 0 g8 L9)))
set_option maxHeartbeats 4000000 in
set_option maxRecDepth 100000 in
theorem rX12_pair (l : Launch) (G : kG) (sz : Nat) (a : Nat → Nat) (fu : Nat) (g : Nat → Nat → Int32) (L : Nat → Nat → Int64) (p1 : Int32) (res : Int32) (s9 : zS) (h : fX12_pair fu p1 g L = some (res, s9)) : kM l yX12_pair cX12_pair 7 (some .int) { frames := 12, cells := 0, slots := 0, locals := 250 } G [.ref (a 0), .int p1] (zw G MS 51 a g L) sz (kQi G (S := Unit) (fun r' _ => r' = res) (fun _ => zw G MS 51 a s9.1 s9.2)) := by
  refine kM.of (by decide) (Nat.le_of_ble_eq_true rfl) ?_
  intro p e s m below meth c A ls H C hr hlk hnm hP hD hS hl
  have C : kC G p s m c cX12_pair 7 RX12 A := C
  have hx := C.1
  have hb := C.2.1
  have hl : lv_has ls 7 [(0, .ref (a 0)), (1, .int p1)] := hl
  obtain ⟨locs, hlocs⟩ : ∃ q : List Loc, q = [] := ⟨_, rfl⟩
  rw [← hlocs] at hS
  rw [← hlocs]
  unfold fX12_pair at h
  refine lv_aload_n hx hb dX12_pair_0 rfl (lv_at hl 0 rfl) ?_
  refine lv_iconst (v := 0) hx hb dX12_pair_1 (by decide) ?_
  refine y_puti (Or.inl fl_X12_177) ft_X12_0 C hP hD hS (by decide) ms_0 rfl rfl rfl dX12_pair_2 h (fun g1 H locs h hP hD hS => ?_)
  refine lv_aload_n hx hb dX12_pair_5 rfl (lv_at hl 0 rfl) ?_
  refine lv_iload_n hx hb dX12_pair_6 rfl (lv_at hl 1 rfl) ?_
  refine lv_iconst (v := 1) hx hb dX12_pair_7 (by decide) ?_
  obtain ⟨z_, g3, L4, hf5, h⟩ := cb_some h
  refine x_callVi (rest := []) li_X12_405 C (rX12_isWhat l G H.size a fu g1 L p1 1 z_ (g3, L4) hf5) (kR rfl) hP hD hS 0 12 rfl (zat (by decide) ms_0) rfl hl.1 rfl (Nat.le_of_ble_eq_true rfl) dX12_pair_8 (fun x2 u_ H locs e_ hP hD hS => ?_)
  have e_ : x2 = z_ := e_
  subst e_
  have hP : va_P G.1 vwCl (zw G MS 51 a g3 L4) H := hP
  have hD : va_D A (zw G MS 51 a g3 L4) := hD
  refine lv_if_ne (x := x2) (tgt := 16) hx hb dX12_pair_11 (by decide) (fun c6 => ?_) (fun c6 => ?_)
  ·
    have h := ite_e c6 h
    refine lv_iconst (v := -1) hx hb dX12_pair_16 (by decide) ?_
    refine lv_istore_n (lv' := [(2, .int (-1)), (0, .ref (a 0)), (1, .int p1)]) hx hb dX12_pair_17 rfl hl (by decide) rfl (fun ls hl => ?_)
    refine lv_iconst (v := 0) hx hb dX12_pair_18 (by decide) ?_
    refine lv_istore_n (lv' := [(3, .int 0), (2, .int (-1)), (0, .ref (a 0)), (1, .int p1)]) hx hb dX12_pair_19 rfl hl (by decide) rfl (fun ls hl => ?_)
    refine lv_aload_n hx hb dX12_pair_20 rfl (lv_at hl 2 rfl) ?_
    refine lv_aload_n hx hb dX12_pair_21 rfl (lv_at hl 2 rfl) ?_
    refine x_getr (Or.inl fl_X12_50) C hP (by decide) ms_0 rfl dX12_pair_22 ?_
    refine lv_aload_n hx hb dX12_pair_25 rfl (lv_at hl 2 rfl) ?_
    refine x_getr (Or.inl fl_X12_150) C hP (by decide) ms_0 rfl dX12_pair_26 ?_
    obtain ⟨z_, g8, L9, hf10, h⟩ := cb_some h
    refine x_callVv (rest := []) li_X12_341 C (rX12_copies_12_42 l G H.size a fu g3 L4 z_ (g8, L9) hf10) (kR rfl) hP hD hS 0 12 rfl (zat (by decide) ms_0) rfl hl.1 rfl (Nat.le_of_ble_eq_true rfl) dX12_pair_29 (fun u_ H locs e_ hP hD hS => ?_)
    have hP : va_P G.1 vwCl (zw G MS 51 a g8 L9) H := hP
    have hD : va_D A (zw G MS 51 a g8 L9) := hD
    refine lv_iconst (v := 0) hx hb dX12_pair_32 (by decide) ?_
    refine lv_istore (lv' := [(4, .int 0), (3, .int 0), (2, .int (-1)), (0, .ref (a 0)), (1, .int p1)]) hx hb dX12_pair_33 hl (by decide) rfl (fun ls hl => ?_)
    have lp35 : ∀ (v1 : Int32), ∀ (n : Nat) (v : Int32 × Int32 × Int32 × (Nat → Nat → Int32) × (Nat → Nat → Int64)), whileK (fun k v => fX12_pair_s35 fu v1 k v.1 v.2.1 v.2.2.1 v.2.2.2.1 v.2.2.2.2) n v = some (res, s9) → ∀ (H : Heap) (locs : List Loc) (ls : Array Slot), va_P G.1 vwCl (zw G MS 51 a (v.2.2.2.1) (v.2.2.2.2)) H → va_D A (zw G MS 51 a (v.2.2.2.1) (v.2.2.2.2)) → va_S A s.heap H locs → lv_has ls 7 [(0, .ref (a 0)), (1, .int v1), (2, .int (v.1)), (3, .int (v.2.1)), (4, .int (v.2.2.1))] → W p l e { frames := 12, cells := 0, slots := 0, locals := 250 } s m [.ref (a 0), .int p1].toArray below meth c H locs 0 0 (MQ below ((kQi G (S := Unit) (fun r' _ => r' = res) (fun _ => zw G MS 51 a s9.1 s9.2)) A) [.ref (a 0), .int p1].toArray s 0 0 A) (F0 m 35 ls []) := by
      intro v1
      refine while_ind (fun k35 ih35 v h => ?_)
      obtain ⟨v2, v3, v4, g, L⟩ := v
      intro H locs ls hP hD hS hl
      have h : fX12_pair_s35 fu v1 k35 v2 v3 v4 g L = some (res, s9) := h
      have hP : va_P G.1 vwCl (zw G MS 51 a g L) H := hP
      have hD : va_D A (zw G MS 51 a g L) := hD
      have hl : lv_has ls 7 [(0, .ref (a 0)), (1, .int v1), (2, .int v2), (3, .int v3), (4, .int v4)] := hl
      show W p l e { frames := 12, cells := 0, slots := 0, locals := 250 } s m [.ref (a 0), .int p1].toArray below meth c H locs 0 0 (MQ below ((kQi G (S := Unit) (fun r' _ => r' = res) (fun _ => zw G MS 51 a s9.1 s9.2)) A) [.ref (a 0), .int p1].toArray s 0 0 A) (F0 m 35 ls [])
      unfold fX12_pair_s35 at h
      refine lv_iload hx hb dX12_pair_35 (lv_at hl 4 rfl) ?_
      refine lv_aload_n hx hb dX12_pair_37 rfl (lv_at hl 0 rfl) ?_
      refine x_getv (v := .int (g 0 1)) (Or.inl fl_X12_335) C hP (by decide) ms_0 rfl dX12_pair_38 ?_
      refine lv_icmp_ge (x := v4) (y := (g 0 1)) (tgt := 135) hx hb dX12_pair_41 (by decide) (fun c11 => ?_) (fun c11 => ?_)
      ·
        have h := ite_t c11 h
        refine lv_iload_n hx hb dX12_pair_135 rfl (lv_at hl 2 rfl) ?_
        refine lv_iconst (v := -1) hx hb dX12_pair_136 (by decide) ?_
        have J149 : ∀ (t0 : Int32) (g : Nat → Nat → Int32) (L : Nat → Nat → Int64) (H : Heap) (locs : List Loc) (ls : Array Slot), fX12_pair_p149 fu t0 g L = some (res, s9) → va_P G.1 vwCl (zw G MS 51 a g L) H → va_D A (zw G MS 51 a g L) → va_S A s.heap H locs → lv_has ls 7 [] → W p l e { frames := 12, cells := 0, slots := 0, locals := 250 } s m [.ref (a 0), .int p1].toArray below meth c H locs 0 0 (MQ below ((kQi G (S := Unit) (fun r' _ => r' = res) (fun _ => zw G MS 51 a s9.1 s9.2)) A) [.ref (a 0), .int p1].toArray s 0 0 A) (F0 m 149 ls [.int t0]) := by
          intro t0 g L H locs ls h hP hD hS hl
          unfold fX12_pair_p149 at h
          exact y_iret C hr hlk hP hD hS h (Nat.le_of_ble_eq_true rfl) (Nat.le_of_ble_eq_true rfl) dX12_pair_149
        have J144 : ∀ (v2 : Int32) (g : Nat → Nat → Int32) (L : Nat → Nat → Int64) (H : Heap) (locs : List Loc) (ls : Array Slot), fX12_pair_p144 fu v2 g L = some (res, s9) → va_P G.1 vwCl (zw G MS 51 a g L) H → va_D A (zw G MS 51 a g L) → va_S A s.heap H locs → lv_has ls 7 [(2, .int v2)] → W p l e { frames := 12, cells := 0, slots := 0, locals := 250 } s m [.ref (a 0), .int p1].toArray below meth c H locs 0 0 (MQ below ((kQi G (S := Unit) (fun r' _ => r' = res) (fun _ => zw G MS 51 a s9.1 s9.2)) A) [.ref (a 0), .int p1].toArray s 0 0 A) (F0 m 144 ls []) := by
          intro v2 g L H locs ls h hP hD hS hl
          unfold fX12_pair_p144 at h
          refine lv_iload_n hx hb dX12_pair_144 rfl (lv_at hl 0 rfl) ?_
          refine lv_goto (tgt := 149) hx hb dX12_pair_145 (by decide) ?_
          exact J149 v2 g L H locs ls h hP hD hS (lv_sub hl [] rfl)
        refine lv_icmp_eq (x := v2) (y := (-1)) (tgt := 144) hx hb dX12_pair_137 (by decide) (fun c12 => ?_) (fun c12 => ?_)
        ·
          have h := ite_t c12 h
          exact J144 v2 g L H locs ls h hP hD hS (lv_sub hl [2] rfl)
        ·
          have h := ite_e c12 h
          refine lv_iload_n hx hb dX12_pair_140 rfl (lv_at hl 1 rfl) ?_
          refine lv_if_ne (x := v1) (tgt := 148) hx hb dX12_pair_141 (by decide) (fun c13 => ?_) (fun c13 => ?_)
          ·
            have h := ite_e c13 h
            refine lv_iload_n hx hb dX12_pair_148 rfl (lv_at hl 3 rfl) ?_
            exact J149 v3 g L H locs ls h hP hD hS (lv_sub hl [] rfl)
          ·
            have h := ite_t c13 h
            exact J144 v2 g L H locs ls h hP hD hS (lv_sub hl [2] rfl)
      ·
        have h := ite_e c11 h
        refine lv_iload hx hb dX12_pair_44 (lv_at hl 4 rfl) ?_
        refine lv_iconst (v := 1) hx hb dX12_pair_46 (by decide) ?_
        refine lv_iadd hx hb dX12_pair_47 ?_
        refine y_let h (fun x14 h => ?_)
        refine lv_istore (lv' := [(5, .int x14), (0, .ref (a 0)), (1, .int v1), (2, .int v2), (3, .int v3), (4, .int v4)]) hx hb dX12_pair_48 hl (by decide) rfl (fun ls hl => ?_)
        have lp50 : ∀ (v4 : Int32), ∀ (n : Nat) (v : Int32 × Int32 × Int32 × (Nat → Nat → Int32) × (Nat → Nat → Int64)), whileK (fun k v => fX12_pair_s50 fu k35 v1 v4 k v.1 v.2.1 v.2.2.1 v.2.2.2.1 v.2.2.2.2) n v = some (res, s9) → ∀ (H : Heap) (locs : List Loc) (ls : Array Slot), va_P G.1 vwCl (zw G MS 51 a (v.2.2.2.1) (v.2.2.2.2)) H → va_D A (zw G MS 51 a (v.2.2.2.1) (v.2.2.2.2)) → va_S A s.heap H locs → lv_has ls 7 [(0, .ref (a 0)), (1, .int v1), (2, .int (v.1)), (3, .int (v.2.1)), (4, .int v4), (5, .int (v.2.2.1))] → W p l e { frames := 12, cells := 0, slots := 0, locals := 250 } s m [.ref (a 0), .int p1].toArray below meth c H locs 0 0 (MQ below ((kQi G (S := Unit) (fun r' _ => r' = res) (fun _ => zw G MS 51 a s9.1 s9.2)) A) [.ref (a 0), .int p1].toArray s 0 0 A) (F0 m 50 ls []) := by
          intro v4
          refine while_ind (fun k50 ih50 v h => ?_)
          obtain ⟨v2, v3, v5, g, L⟩ := v
          intro H locs ls hP hD hS hl
          have h : fX12_pair_s50 fu k35 v1 v4 k50 v2 v3 v5 g L = some (res, s9) := h
          have hP : va_P G.1 vwCl (zw G MS 51 a g L) H := hP
          have hD : va_D A (zw G MS 51 a g L) := hD
          have hl : lv_has ls 7 [(0, .ref (a 0)), (1, .int v1), (2, .int v2), (3, .int v3), (4, .int v4), (5, .int v5)] := hl
          show W p l e { frames := 12, cells := 0, slots := 0, locals := 250 } s m [.ref (a 0), .int p1].toArray below meth c H locs 0 0 (MQ below ((kQi G (S := Unit) (fun r' _ => r' = res) (fun _ => zw G MS 51 a s9.1 s9.2)) A) [.ref (a 0), .int p1].toArray s 0 0 A) (F0 m 50 ls [])
          unfold fX12_pair_s50 at h
          refine lv_iload hx hb dX12_pair_50 (lv_at hl 5 rfl) ?_
          refine lv_aload_n hx hb dX12_pair_52 rfl (lv_at hl 0 rfl) ?_
          refine x_getv (v := .int (g 0 1)) (Or.inl fl_X12_335) C hP (by decide) ms_0 rfl dX12_pair_53 ?_
          refine lv_icmp_ge (x := v5) (y := (g 0 1)) (tgt := 129) hx hb dX12_pair_56 (by decide) (fun c15 => ?_) (fun c15 => ?_)
          ·
            have h := ite_t c15 h
            refine lv_iinc (v := (v4 + 1)) (lv' := [(4, .int (v4 + 1)), (0, .ref (a 0)), (1, .int v1), (2, .int v2), (3, .int v3), (5, .int v5)]) hx hb dX12_pair_129 hl (k := 4) rfl rfl (by decide) rfl (fun ls hl => ?_)
            refine lv_goto (tgt := 35) hx hb dX12_pair_132 (by decide) ?_
            exact ih35 (v2, v3, (v4 + 1), g, L) h H locs ls hP hD hS (lv_sub hl [1, 2, 3, 4, 0] rfl)
          ·
            have h := ite_e c15 h
            refine lv_aload_n hx hb dX12_pair_59 rfl (lv_at hl 0 rfl) ?_
            refine x_getr (Or.inl fl_X12_50) C hP (by decide) ms_0 rfl dX12_pair_60 ?_
            refine lv_iconst (v := 0) hx hb dX12_pair_63 (by decide) ?_
            refine lv_iload hx hb dX12_pair_64 (lv_at hl 4 rfl) ?_
            refine lv_iadd hx hb dX12_pair_66 ?_
            refine lv_iconst (v := 0) hx hb dX12_pair_67 (by decide) ?_
            refine y_ast C hP hD hS (by decide) ms_12 dX12_pair_68 h (fun g16 H locs h hP hD hS => ?_)
            refine lv_aload_n hx hb dX12_pair_69 rfl (lv_at hl 0 rfl) ?_
            refine x_getr (Or.inl fl_X12_50) C hP (by decide) ms_0 rfl dX12_pair_70 ?_
            refine lv_iconst (v := 0) hx hb dX12_pair_73 (by decide) ?_
            refine lv_iload hx hb dX12_pair_74 (lv_at hl 5 rfl) ?_
            refine lv_iadd hx hb dX12_pair_76 ?_
            refine lv_iconst (v := 0) hx hb dX12_pair_77 (by decide) ?_
            refine y_ast C hP hD hS (by decide) ms_12 dX12_pair_78 h (fun g17 H locs h hP hD hS => ?_)
            refine lv_aload_n hx hb dX12_pair_79 rfl (lv_at hl 0 rfl) ?_
            obtain ⟨z_, g19, L20, hf21, h⟩ := cb_some h
            refine x_callVi (rest := []) li_X12_399 C (rX12_lost l G H.size a fu g17 L z_ (g19, L20) hf21) (kR rfl) hP hD hS 0 12 rfl (zat (by decide) ms_0) rfl hl.1 rfl (Nat.le_of_ble_eq_true rfl) dX12_pair_80 (fun x18 u_ H locs e_ hP hD hS => ?_)
            have e_ : x18 = z_ := e_
            subst e_
            have hP : va_P G.1 vwCl (zw G MS 51 a g19 L20) H := hP
            have hD : va_D A (zw G MS 51 a g19 L20) := hD
            refine lv_istore (lv' := [(6, .int x18), (0, .ref (a 0)), (1, .int v1), (2, .int v2), (3, .int v3), (4, .int v4), (5, .int v5)]) hx hb dX12_pair_83 hl (by decide) rfl (fun ls hl => ?_)
            refine lv_aload_n hx hb dX12_pair_85 rfl (lv_at hl 1 rfl) ?_
            refine lv_aload_n hx hb dX12_pair_86 rfl (lv_at hl 1 rfl) ?_
            refine x_getr (Or.inl fl_X12_150) C hP (by decide) ms_0 rfl dX12_pair_87 ?_
            refine lv_aload_n hx hb dX12_pair_90 rfl (lv_at hl 1 rfl) ?_
            refine x_getr (Or.inl fl_X12_50) C hP (by decide) ms_0 rfl dX12_pair_91 ?_
            obtain ⟨z_, g23, L24, hf25, h⟩ := cb_some h
            refine x_callVv (rest := []) li_X12_341 C (rX12_copies_42_12 l G H.size a fu g19 L20 z_ (g23, L24) hf25) (kR rfl) hP hD hS 0 12 rfl (zat (by decide) ms_0) rfl hl.1 rfl (Nat.le_of_ble_eq_true rfl) dX12_pair_94 (fun u_ H locs e_ hP hD hS => ?_)
            have hP : va_P G.1 vwCl (zw G MS 51 a g23 L24) H := hP
            have hD : va_D A (zw G MS 51 a g23 L24) := hD
            refine lv_iload_n hx hb dX12_pair_97 rfl (lv_at hl 3 rfl) ?_
            refine lv_iconst (v := -1) hx hb dX12_pair_98 (by decide) ?_
            have J123 : ∀ (v2 : Int32) (v3 : Int32) (v5 : Int32) (g : Nat → Nat → Int32) (L : Nat → Nat → Int64) (H : Heap) (locs : List Loc) (ls : Array Slot), fX12_pair_p123 fu k35 k50 v1 v2 v3 v4 v5 g L = some (res, s9) → va_P G.1 vwCl (zw G MS 51 a g L) H → va_D A (zw G MS 51 a g L) → va_S A s.heap H locs → lv_has ls 7 [(0, .ref (a 0)), (1, .int v1), (2, .int v2), (3, .int v3), (4, .int v4), (5, .int v5)] → W p l e { frames := 12, cells := 0, slots := 0, locals := 250 } s m [.ref (a 0), .int p1].toArray below meth c H locs 0 0 (MQ below ((kQi G (S := Unit) (fun r' _ => r' = res) (fun _ => zw G MS 51 a s9.1 s9.2)) A) [.ref (a 0), .int p1].toArray s 0 0 A) (F0 m 123 ls []) := by
              intro v2 v3 v5 g L H locs ls h hP hD hS hl
              unfold fX12_pair_p123 at h
              refine lv_iinc (v := (v5 + 1)) (lv' := [(5, .int (v5 + 1)), (0, .ref (a 0)), (1, .int v1), (2, .int v2), (3, .int v3), (4, .int v4)]) hx hb dX12_pair_123 hl (k := 5) rfl rfl (by decide) rfl (fun ls hl => ?_)
              refine lv_goto (tgt := 50) hx hb dX12_pair_126 (by decide) ?_
              exact ih50 (v2, v3, (v5 + 1), g, L) h H locs ls hP hD hS (lv_sub hl [1, 2, 3, 4, 5, 0] rfl)
            have J111 : ∀ (v5 : Int32) (v6 : Int32) (g : Nat → Nat → Int32) (L : Nat → Nat → Int64) (H : Heap) (locs : List Loc) (ls : Array Slot), fX12_pair_p111 fu k35 k50 v1 v4 v5 v6 g L = some (res, s9) → va_P G.1 vwCl (zw G MS 51 a g L) H → va_D A (zw G MS 51 a g L) → va_S A s.heap H locs → lv_has ls 7 [(0, .ref (a 0)), (1, .int v1), (4, .int v4), (5, .int v5), (6, .int v6)] → W p l e { frames := 12, cells := 0, slots := 0, locals := 250 } s m [.ref (a 0), .int p1].toArray below meth c H locs 0 0 (MQ below ((kQi G (S := Unit) (fun r' _ => r' = res) (fun _ => zw G MS 51 a s9.1 s9.2)) A) [.ref (a 0), .int p1].toArray s 0 0 A) (F0 m 111 ls []) := by
              intro v5 v6 g L H locs ls h hP hD hS hl
              unfold fX12_pair_p111 at h
              refine lv_bipush (v := 100) hx hb dX12_pair_111 (by decide) ?_
              refine lv_iload hx hb dX12_pair_113 (lv_at hl 2 rfl) ?_
              refine lv_imul hx hb dX12_pair_115 ?_
              refine lv_iload hx hb dX12_pair_116 (lv_at hl 3 rfl) ?_
              refine lv_iadd hx hb dX12_pair_118 ?_
              refine y_let h (fun x26 h => ?_)
              refine lv_istore_n (lv' := [(2, .int x26), (0, .ref (a 0)), (1, .int v1), (4, .int v4), (5, .int v5), (6, .int v6)]) hx hb dX12_pair_119 rfl hl (by decide) rfl (fun ls hl => ?_)
              refine lv_iload hx hb dX12_pair_120 (lv_at hl 5 rfl) ?_
              refine lv_istore_n (lv' := [(3, .int v6), (2, .int x26), (0, .ref (a 0)), (1, .int v1), (4, .int v4), (5, .int v5), (6, .int v6)]) hx hb dX12_pair_122 rfl hl (by decide) rfl (fun ls hl => ?_)
              exact J123 x26 v6 v5 g L H locs ls h hP hD hS (lv_sub hl [2, 3, 1, 0, 4, 5] rfl)
            refine lv_icmp_eq (x := v2) (y := (-1)) (tgt := 111) hx hb dX12_pair_99 (by decide) (fun c27 => ?_) (fun c27 => ?_)
            ·
              have h := ite_t c27 h
              exact J111 v5 x18 g23 L24 H locs ls h hP hD hS (lv_sub hl [1, 2, 5, 6, 0] rfl)
            ·
              have h := ite_e c27 h
              refine lv_iload hx hb dX12_pair_102 (lv_at hl 0 rfl) ?_
              refine lv_iload_n hx hb dX12_pair_104 rfl (lv_at hl 4 rfl) ?_
              refine lv_icmp_lt (x := x18) (y := v3) (tgt := 111) hx hb dX12_pair_105 (by decide) (fun c28 => ?_) (fun c28 => ?_)
              ·
                have h := ite_t c28 h
                exact J111 v5 x18 g23 L24 H locs ls h hP hD hS (lv_sub hl [1, 2, 5, 6, 0] rfl)
              ·
                have h := ite_e c28 h
                refine lv_goto (tgt := 123) hx hb dX12_pair_108 (by decide) ?_
                exact J123 v2 v3 v5 g23 L24 H locs ls h hP hD hS (lv_sub hl [1, 2, 3, 4, 5, 6] rfl)
        exact lp50 v4 fu (v2, v3, x14, g, L) h H locs ls hP hD hS (lv_sub hl [1, 2, 3, 4, 5, 0] rfl)
    exact lp35 p1 fu ((-1), 0, 0, g8, L9) h H locs ls hP hD hS (lv_sub hl [3, 4, 2, 1, 0] rfl)
  ·
    have h := ite_t c6 h
    refine lv_iconst (v := 0) hx hb dX12_pair_14 (by decide) ?_
    exact y_iret C hr hlk hP hD hS h (Nat.le_of_ble_eq_true rfl) (Nat.le_of_ble_eq_true rfl) dX12_pair_15
def fX12_pause_p29 (fu : Nat) (g : Nat → Nat → Int32) (L : Nat → Nat → Int64) : Option ((Int32) × zS) :=
  some (0, (g, L))
def fX12_pause_p197 (fu : Nat) (t0 : Int32) (g : Nat → Nat → Int32) (L : Nat → Nat → Int64) : Option ((Int32) × zS) :=
  some (t0, (g, L))
def fX12_pause_p191 (fu : Nat) (v3 : Int32) (g : Nat → Nat → Int32) (L : Nat → Nat → Int64) : Option ((Int32) × zS) :=
  fX12_pause_p197 fu v3 g L
def fX12_pause_p176 (fu : Nat) (k51 : Int32 × Int32 × Int32 × (Nat → Nat → Int32) × (Nat → Nat → Int64) → Option ((Int32) × zS)) (v1 : Int32) (v2 : Int32) (v3 : Int32) (v4 : Int32) (v5 : Int32) (g : Nat → Nat → Int32) (L : Nat → Nat → Int64) : Option ((Int32) × zS) :=
  k51 (v3, v4, (v5 + 1), g, L)
def fX12_pause_p164 (fu : Nat) (k51 : Int32 × Int32 × Int32 × (Nat → Nat → Int32) × (Nat → Nat → Int64) → Option ((Int32) × zS)) (v1 : Int32) (v2 : Int32) (v5 : Int32) (v6 : Int32) (g : Nat → Nat → Int32) (L : Nat → Nat → Int64) : Option ((Int32) × zS) :=
  ck v5 12 (
  lti (g 1 (Int32.toNatClampNeg v5)) (fun x32 =>
  fX12_pause_p176 fu k51 v1 v2 x32 v6 v5 g L))
def fX12_pause_p105 (fu : Nat) (k51 : Int32 × Int32 × Int32 × (Nat → Nat → Int32) × (Nat → Nat → Int64) → Option ((Int32) × zS)) (k63 : Int32 × (Nat → Nat → Int32) × (Nat → Nat → Int64) → Option ((Int32) × zS)) (v1 : Int32) (v2 : Int32) (v3 : Int32) (v4 : Int32) (v5 : Int32) (v6 : Int32) (t0 : Int32) (t1 : Int32) (t2 : Int32) (g : Nat → Nat → Int32) (L : Nat → Nat → Int64) : Option ((Int32) × zS) :=
  ck t2 48 (sti g 12 (Int32.toNatClampNeg t2) (t1 + t0) (fun g37 =>
  k63 ((v6 + 1), g37, L)))
def fX12_pause_s63 (fu : Nat) (k51 : Int32 × Int32 × Int32 × (Nat → Nat → Int32) × (Nat → Nat → Int64) → Option ((Int32) × zS)) (v1 : Int32) (v2 : Int32) (v3 : Int32) (v4 : Int32) (v5 : Int32) (k63 : Int32 × (Nat → Nat → Int32) × (Nat → Nat → Int64) → Option ((Int32) × zS)) (v6 : Int32) (g : Nat → Nat → Int32) (L : Nat → Nat → Int64) : Option ((Int32) × zS) :=
  if (g 0 1) ≤ v6 then cb (fX12_lost fu g L) (fun x24 g25 L26 =>
  cb (fX12_copies_42_12 fu g25 L26) (fun x28 g29 L30 =>
  if (v3 : Int32) = (-1) then fX12_pause_p164 fu k51 v1 v2 v5 x24 g29 L30
  else if v4 < (x24 : Int32) then fX12_pause_p176 fu k51 v1 v2 v3 v4 v5 g29 L30
  else if (x24 : Int32) = v4 then ck v5 12 (
  if (g29 1 (Int32.toNatClampNeg v5)) < v3 then fX12_pause_p164 fu k51 v1 v2 v5 x24 g29 L30
  else fX12_pause_p176 fu k51 v1 v2 v3 v4 v5 g29 L30)
  else fX12_pause_p164 fu k51 v1 v2 v5 x24 g29 L30))
  else ck (12 + v6) 48 (
  ck v6 12 (
  ck v5 12 (
  if (g 1 (Int32.toNatClampNeg v6)) < (g 1 (Int32.toNatClampNeg v5)) then fX12_pause_p105 fu k51 k63 v1 v2 v3 v4 v5 v6 0 (g 12 (Int32.toNatClampNeg (12 + v6))) (12 + v6) g L
  else fX12_pause_p105 fu k51 k63 v1 v2 v3 v4 v5 v6 v1 (g 12 (Int32.toNatClampNeg (12 + v6))) (12 + v6) g L)))
def fX12_pause_l63 (fu : Nat) (k51 : Int32 × Int32 × Int32 × (Nat → Nat → Int32) × (Nat → Nat → Int64) → Option ((Int32) × zS)) (v1 : Int32) (v2 : Int32) (v3 : Int32) (v4 : Int32) (v5 : Int32) (v6 : Int32) (g : Nat → Nat → Int32) (L : Nat → Nat → Int64) : Option ((Int32) × zS) :=
  whileK (fun k v => fX12_pause_s63 fu k51 v1 v2 v3 v4 v5 k v.1 v.2.1 v.2.2) fu (v6, g, L)
def fX12_pause_s51 (fu : Nat) (v1 : Int32) (v2 : Int32) (k51 : Int32 × Int32 × Int32 × (Nat → Nat → Int32) × (Nat → Nat → Int64) → Option ((Int32) × zS)) (v3 : Int32) (v4 : Int32) (v5 : Int32) (g : Nat → Nat → Int32) (L : Nat → Nat → Int64) : Option ((Int32) × zS) :=
  if (g 0 1) ≤ v5 then (if (v3 : Int32) = (-1) then fX12_pause_p191 fu v3 g L
  else if v2 = 0 then fX12_pause_p191 fu v3 g L
  else fX12_pause_p197 fu v4 g L)
  else fX12_pause_l63 fu k51 v1 v2 v3 v4 v5 0 g L
def fX12_pause_l51 (fu : Nat) (v1 : Int32) (v2 : Int32) (v3 : Int32) (v4 : Int32) (v5 : Int32) (g : Nat → Nat → Int32) (L : Nat → Nat → Int64) : Option ((Int32) × zS) :=
  whileK (fun k v => fX12_pause_s51 fu v1 v2 k v.1 v.2.1 v.2.2.1 v.2.2.2.1 v.2.2.2.2) fu (v3, v4, v5, g, L)
def fX12_pause (fu : Nat) (p1 : Int32) (p2 : Int32) (g : Nat → Nat → Int32) (L : Nat → Nat → Int64) : Option ((Int32) × zS) :=
  sti g 0 0 0 (fun g1 =>
  cb (fX12_isWhat fu p2 1 g1 L) (fun x2 g3 L4 =>
  if x2 = 0 then fX12_pause_p29 fu g3 L4
  else cb (fX12_within fu p1 1 30 g3 L4) (fun x7 g8 L9 =>
  cb (fX12_right fu x7 2 g8 L9) (fun x11 g12 L13 =>
  if x11 = 0 then fX12_pause_p29 fu g12 L13
  else cb (fX12_copies_12_42 fu g12 L13) (fun x16 g17 L18 =>
  fX12_pause_l51 fu p1 p2 (-1) 0 0 g17 L18)))))
set_option maxHeartbeats 4000000 in
set_option maxRecDepth 100000 in
theorem rX12_pause (l : Launch) (G : kG) (sz : Nat) (a : Nat → Nat) (fu : Nat) (g : Nat → Nat → Int32) (L : Nat → Nat → Int64) (p1 : Int32) (p2 : Int32) (res : Int32) (s9 : zS) (h : fX12_pause fu p1 p2 g L = some (res, s9)) : kM l yX12_pause cX12_pause 7 (some .int) { frames := 12, cells := 0, slots := 0, locals := 250 } G [.ref (a 0), .int p1, .int p2] (zw G MS 51 a g L) sz (kQi G (S := Unit) (fun r' _ => r' = res) (fun _ => zw G MS 51 a s9.1 s9.2)) := by
  refine kM.of (by decide) (Nat.le_of_ble_eq_true rfl) ?_
  intro p e s m below meth c A ls H C hr hlk hnm hP hD hS hl
  have C : kC G p s m c cX12_pause 7 RX12 A := C
  have hx := C.1
  have hb := C.2.1
  have hl : lv_has ls 7 [(0, .ref (a 0)), (1, .int p1), (2, .int p2)] := hl
  obtain ⟨locs, hlocs⟩ : ∃ q : List Loc, q = [] := ⟨_, rfl⟩
  rw [← hlocs] at hS
  rw [← hlocs]
  unfold fX12_pause at h
  refine lv_aload_n hx hb dX12_pause_0 rfl (lv_at hl 0 rfl) ?_
  refine lv_iconst (v := 0) hx hb dX12_pause_1 (by decide) ?_
  refine y_puti (Or.inl fl_X12_177) ft_X12_0 C hP hD hS (by decide) ms_0 rfl rfl rfl dX12_pause_2 h (fun g1 H locs h hP hD hS => ?_)
  refine lv_aload_n hx hb dX12_pause_5 rfl (lv_at hl 0 rfl) ?_
  refine lv_iload_n hx hb dX12_pause_6 rfl (lv_at hl 2 rfl) ?_
  refine lv_iconst (v := 1) hx hb dX12_pause_7 (by decide) ?_
  obtain ⟨z_, g3, L4, hf5, h⟩ := cb_some h
  refine x_callVi (rest := []) li_X12_405 C (rX12_isWhat l G H.size a fu g1 L p2 1 z_ (g3, L4) hf5) (kR rfl) hP hD hS 0 12 rfl (zat (by decide) ms_0) rfl hl.1 rfl (Nat.le_of_ble_eq_true rfl) dX12_pause_8 (fun x2 u_ H locs e_ hP hD hS => ?_)
  have e_ : x2 = z_ := e_
  subst e_
  have hP : va_P G.1 vwCl (zw G MS 51 a g3 L4) H := hP
  have hD : va_D A (zw G MS 51 a g3 L4) := hD
  have J29 : ∀ (g : Nat → Nat → Int32) (L : Nat → Nat → Int64) (H : Heap) (locs : List Loc) (ls : Array Slot), fX12_pause_p29 fu g L = some (res, s9) → va_P G.1 vwCl (zw G MS 51 a g L) H → va_D A (zw G MS 51 a g L) → va_S A s.heap H locs → lv_has ls 7 [] → W p l e { frames := 12, cells := 0, slots := 0, locals := 250 } s m [.ref (a 0), .int p1, .int p2].toArray below meth c H locs 0 0 (MQ below ((kQi G (S := Unit) (fun r' _ => r' = res) (fun _ => zw G MS 51 a s9.1 s9.2)) A) [.ref (a 0), .int p1, .int p2].toArray s 0 0 A) (F0 m 29 ls []) := by
    intro g L H locs ls h hP hD hS hl
    unfold fX12_pause_p29 at h
    refine lv_iconst (v := 0) hx hb dX12_pause_29 (by decide) ?_
    exact y_iret C hr hlk hP hD hS h (Nat.le_of_ble_eq_true rfl) (Nat.le_of_ble_eq_true rfl) dX12_pause_30
  refine lv_if_eq (x := x2) (tgt := 29) hx hb dX12_pause_11 (by decide) (fun c6 => ?_) (fun c6 => ?_)
  ·
    have h := ite_t c6 h
    exact J29 g3 L4 H locs ls h hP hD hS (lv_sub hl [] rfl)
  ·
    have h := ite_e c6 h
    refine lv_aload_n hx hb dX12_pause_14 rfl (lv_at hl 0 rfl) ?_
    refine lv_iload_n hx hb dX12_pause_15 rfl (lv_at hl 1 rfl) ?_
    refine lv_iconst (v := 1) hx hb dX12_pause_16 (by decide) ?_
    refine lv_bipush (v := 30) hx hb dX12_pause_17 (by decide) ?_
    obtain ⟨z_, g8, L9, hf10, h⟩ := cb_some h
    refine x_callSi (rest := [.ref (a 0)]) li_X12_392 C (rX12_within l G H.size a fu g3 L4 p1 1 30 z_ (g8, L9) hf10) (kR rfl) hP hD hS rfl hl.1 rfl (Nat.le_of_ble_eq_true rfl) dX12_pause_19 (fun x7 u_ H locs e_ hP hD hS => ?_)
    have e_ : x7 = z_ := e_
    subst e_
    have hP : va_P G.1 vwCl (zw G MS 51 a g8 L9) H := hP
    have hD : va_D A (zw G MS 51 a g8 L9) := hD
    refine lv_iconst (v := 2) hx hb dX12_pause_22 (by decide) ?_
    obtain ⟨z_, g12, L13, hf14, h⟩ := cb_some h
    refine x_callVi (rest := []) li_X12_328 C (rX12_right l G H.size a fu g8 L9 x7 2 z_ (g12, L13) hf14) (kR rfl) hP hD hS 0 12 rfl (zat (by decide) ms_0) rfl hl.1 rfl (Nat.le_of_ble_eq_true rfl) dX12_pause_23 (fun x11 u_ H locs e_ hP hD hS => ?_)
    have e_ : x11 = z_ := e_
    subst e_
    have hP : va_P G.1 vwCl (zw G MS 51 a g12 L13) H := hP
    have hD : va_D A (zw G MS 51 a g12 L13) := hD
    refine lv_if_ne (x := x11) (tgt := 31) hx hb dX12_pause_26 (by decide) (fun c15 => ?_) (fun c15 => ?_)
    ·
      have h := ite_e c15 h
      refine lv_iconst (v := -1) hx hb dX12_pause_31 (by decide) ?_
      refine lv_istore_n (lv' := [(3, .int (-1)), (0, .ref (a 0)), (1, .int p1), (2, .int p2)]) hx hb dX12_pause_32 rfl hl (by decide) rfl (fun ls hl => ?_)
      refine lv_iconst (v := 0) hx hb dX12_pause_33 (by decide) ?_
      refine lv_istore (lv' := [(4, .int 0), (3, .int (-1)), (0, .ref (a 0)), (1, .int p1), (2, .int p2)]) hx hb dX12_pause_34 hl (by decide) rfl (fun ls hl => ?_)
      refine lv_aload_n hx hb dX12_pause_36 rfl (lv_at hl 2 rfl) ?_
      refine lv_aload_n hx hb dX12_pause_37 rfl (lv_at hl 2 rfl) ?_
      refine x_getr (Or.inl fl_X12_50) C hP (by decide) ms_0 rfl dX12_pause_38 ?_
      refine lv_aload_n hx hb dX12_pause_41 rfl (lv_at hl 2 rfl) ?_
      refine x_getr (Or.inl fl_X12_150) C hP (by decide) ms_0 rfl dX12_pause_42 ?_
      obtain ⟨z_, g17, L18, hf19, h⟩ := cb_some h
      refine x_callVv (rest := []) li_X12_341 C (rX12_copies_12_42 l G H.size a fu g12 L13 z_ (g17, L18) hf19) (kR rfl) hP hD hS 0 12 rfl (zat (by decide) ms_0) rfl hl.1 rfl (Nat.le_of_ble_eq_true rfl) dX12_pause_45 (fun u_ H locs e_ hP hD hS => ?_)
      have hP : va_P G.1 vwCl (zw G MS 51 a g17 L18) H := hP
      have hD : va_D A (zw G MS 51 a g17 L18) := hD
      refine lv_iconst (v := 0) hx hb dX12_pause_48 (by decide) ?_
      refine lv_istore (lv' := [(5, .int 0), (4, .int 0), (3, .int (-1)), (0, .ref (a 0)), (1, .int p1), (2, .int p2)]) hx hb dX12_pause_49 hl (by decide) rfl (fun ls hl => ?_)
      have lp51 : ∀ (v1 : Int32) (v2 : Int32), ∀ (n : Nat) (v : Int32 × Int32 × Int32 × (Nat → Nat → Int32) × (Nat → Nat → Int64)), whileK (fun k v => fX12_pause_s51 fu v1 v2 k v.1 v.2.1 v.2.2.1 v.2.2.2.1 v.2.2.2.2) n v = some (res, s9) → ∀ (H : Heap) (locs : List Loc) (ls : Array Slot), va_P G.1 vwCl (zw G MS 51 a (v.2.2.2.1) (v.2.2.2.2)) H → va_D A (zw G MS 51 a (v.2.2.2.1) (v.2.2.2.2)) → va_S A s.heap H locs → lv_has ls 7 [(0, .ref (a 0)), (1, .int v1), (2, .int v2), (3, .int (v.1)), (4, .int (v.2.1)), (5, .int (v.2.2.1))] → W p l e { frames := 12, cells := 0, slots := 0, locals := 250 } s m [.ref (a 0), .int p1, .int p2].toArray below meth c H locs 0 0 (MQ below ((kQi G (S := Unit) (fun r' _ => r' = res) (fun _ => zw G MS 51 a s9.1 s9.2)) A) [.ref (a 0), .int p1, .int p2].toArray s 0 0 A) (F0 m 51 ls []) := by
        intro v1 v2
        refine while_ind (fun k51 ih51 v h => ?_)
        obtain ⟨v3, v4, v5, g, L⟩ := v
        intro H locs ls hP hD hS hl
        have h : fX12_pause_s51 fu v1 v2 k51 v3 v4 v5 g L = some (res, s9) := h
        have hP : va_P G.1 vwCl (zw G MS 51 a g L) H := hP
        have hD : va_D A (zw G MS 51 a g L) := hD
        have hl : lv_has ls 7 [(0, .ref (a 0)), (1, .int v1), (2, .int v2), (3, .int v3), (4, .int v4), (5, .int v5)] := hl
        show W p l e { frames := 12, cells := 0, slots := 0, locals := 250 } s m [.ref (a 0), .int p1, .int p2].toArray below meth c H locs 0 0 (MQ below ((kQi G (S := Unit) (fun r' _ => r' = res) (fun _ => zw G MS 51 a s9.1 s9.2)) A) [.ref (a 0), .int p1, .int p2].toArray s 0 0 A) (F0 m 51 ls [])
        unfold fX12_pause_s51 at h
        refine lv_iload hx hb dX12_pause_51 (lv_at hl 5 rfl) ?_
        refine lv_aload_n hx hb dX12_pause_53 rfl (lv_at hl 0 rfl) ?_
        refine x_getv (v := .int (g 0 1)) (Or.inl fl_X12_335) C hP (by decide) ms_0 rfl dX12_pause_54 ?_
        refine lv_icmp_ge (x := v5) (y := (g 0 1)) (tgt := 182) hx hb dX12_pause_57 (by decide) (fun c20 => ?_) (fun c20 => ?_)
        ·
          have h := ite_t c20 h
          refine lv_iload_n hx hb dX12_pause_182 rfl (lv_at hl 3 rfl) ?_
          refine lv_iconst (v := -1) hx hb dX12_pause_183 (by decide) ?_
          have J197 : ∀ (t0 : Int32) (g : Nat → Nat → Int32) (L : Nat → Nat → Int64) (H : Heap) (locs : List Loc) (ls : Array Slot), fX12_pause_p197 fu t0 g L = some (res, s9) → va_P G.1 vwCl (zw G MS 51 a g L) H → va_D A (zw G MS 51 a g L) → va_S A s.heap H locs → lv_has ls 7 [] → W p l e { frames := 12, cells := 0, slots := 0, locals := 250 } s m [.ref (a 0), .int p1, .int p2].toArray below meth c H locs 0 0 (MQ below ((kQi G (S := Unit) (fun r' _ => r' = res) (fun _ => zw G MS 51 a s9.1 s9.2)) A) [.ref (a 0), .int p1, .int p2].toArray s 0 0 A) (F0 m 197 ls [.int t0]) := by
            intro t0 g L H locs ls h hP hD hS hl
            unfold fX12_pause_p197 at h
            exact y_iret C hr hlk hP hD hS h (Nat.le_of_ble_eq_true rfl) (Nat.le_of_ble_eq_true rfl) dX12_pause_197
          have J191 : ∀ (v3 : Int32) (g : Nat → Nat → Int32) (L : Nat → Nat → Int64) (H : Heap) (locs : List Loc) (ls : Array Slot), fX12_pause_p191 fu v3 g L = some (res, s9) → va_P G.1 vwCl (zw G MS 51 a g L) H → va_D A (zw G MS 51 a g L) → va_S A s.heap H locs → lv_has ls 7 [(3, .int v3)] → W p l e { frames := 12, cells := 0, slots := 0, locals := 250 } s m [.ref (a 0), .int p1, .int p2].toArray below meth c H locs 0 0 (MQ below ((kQi G (S := Unit) (fun r' _ => r' = res) (fun _ => zw G MS 51 a s9.1 s9.2)) A) [.ref (a 0), .int p1, .int p2].toArray s 0 0 A) (F0 m 191 ls []) := by
            intro v3 g L H locs ls h hP hD hS hl
            unfold fX12_pause_p191 at h
            refine lv_iload_n hx hb dX12_pause_191 rfl (lv_at hl 0 rfl) ?_
            refine lv_goto (tgt := 197) hx hb dX12_pause_192 (by decide) ?_
            exact J197 v3 g L H locs ls h hP hD hS (lv_sub hl [] rfl)
          refine lv_icmp_eq (x := v3) (y := (-1)) (tgt := 191) hx hb dX12_pause_184 (by decide) (fun c21 => ?_) (fun c21 => ?_)
          ·
            have h := ite_t c21 h
            exact J191 v3 g L H locs ls h hP hD hS (lv_sub hl [3] rfl)
          ·
            have h := ite_e c21 h
            refine lv_iload_n hx hb dX12_pause_187 rfl (lv_at hl 2 rfl) ?_
            refine lv_if_ne (x := v2) (tgt := 195) hx hb dX12_pause_188 (by decide) (fun c22 => ?_) (fun c22 => ?_)
            ·
              have h := ite_e c22 h
              refine lv_iload hx hb dX12_pause_195 (lv_at hl 4 rfl) ?_
              exact J197 v4 g L H locs ls h hP hD hS (lv_sub hl [] rfl)
            ·
              have h := ite_t c22 h
              exact J191 v3 g L H locs ls h hP hD hS (lv_sub hl [3] rfl)
        ·
          have h := ite_e c20 h
          refine lv_iconst (v := 0) hx hb dX12_pause_60 (by decide) ?_
          refine lv_istore (lv' := [(6, .int 0), (0, .ref (a 0)), (1, .int v1), (2, .int v2), (3, .int v3), (4, .int v4), (5, .int v5)]) hx hb dX12_pause_61 hl (by decide) rfl (fun ls hl => ?_)
          have lp63 : ∀ (v3 : Int32) (v4 : Int32) (v5 : Int32), ∀ (n : Nat) (v : Int32 × (Nat → Nat → Int32) × (Nat → Nat → Int64)), whileK (fun k v => fX12_pause_s63 fu k51 v1 v2 v3 v4 v5 k v.1 v.2.1 v.2.2) n v = some (res, s9) → ∀ (H : Heap) (locs : List Loc) (ls : Array Slot), va_P G.1 vwCl (zw G MS 51 a (v.2.1) (v.2.2)) H → va_D A (zw G MS 51 a (v.2.1) (v.2.2)) → va_S A s.heap H locs → lv_has ls 7 [(0, .ref (a 0)), (1, .int v1), (2, .int v2), (3, .int v3), (4, .int v4), (5, .int v5), (6, .int (v.1))] → W p l e { frames := 12, cells := 0, slots := 0, locals := 250 } s m [.ref (a 0), .int p1, .int p2].toArray below meth c H locs 0 0 (MQ below ((kQi G (S := Unit) (fun r' _ => r' = res) (fun _ => zw G MS 51 a s9.1 s9.2)) A) [.ref (a 0), .int p1, .int p2].toArray s 0 0 A) (F0 m 63 ls []) := by
            intro v3 v4 v5
            refine while_ind (fun k63 ih63 v h => ?_)
            obtain ⟨v6, g, L⟩ := v
            intro H locs ls hP hD hS hl
            have h : fX12_pause_s63 fu k51 v1 v2 v3 v4 v5 k63 v6 g L = some (res, s9) := h
            have hP : va_P G.1 vwCl (zw G MS 51 a g L) H := hP
            have hD : va_D A (zw G MS 51 a g L) := hD
            have hl : lv_has ls 7 [(0, .ref (a 0)), (1, .int v1), (2, .int v2), (3, .int v3), (4, .int v4), (5, .int v5), (6, .int v6)] := hl
            show W p l e { frames := 12, cells := 0, slots := 0, locals := 250 } s m [.ref (a 0), .int p1, .int p2].toArray below meth c H locs 0 0 (MQ below ((kQi G (S := Unit) (fun r' _ => r' = res) (fun _ => zw G MS 51 a s9.1 s9.2)) A) [.ref (a 0), .int p1, .int p2].toArray s 0 0 A) (F0 m 63 ls [])
            unfold fX12_pause_s63 at h
            refine lv_iload hx hb dX12_pause_63 (lv_at hl 6 rfl) ?_
            refine lv_aload_n hx hb dX12_pause_65 rfl (lv_at hl 0 rfl) ?_
            refine x_getv (v := .int (g 0 1)) (Or.inl fl_X12_335) C hP (by decide) ms_0 rfl dX12_pause_66 ?_
            refine lv_icmp_ge (x := v6) (y := (g 0 1)) (tgt := 113) hx hb dX12_pause_69 (by decide) (fun c23 => ?_) (fun c23 => ?_)
            ·
              have h := ite_t c23 h
              refine lv_aload_n hx hb dX12_pause_113 rfl (lv_at hl 0 rfl) ?_
              obtain ⟨z_, g25, L26, hf27, h⟩ := cb_some h
              refine x_callVi (rest := []) li_X12_399 C (rX12_lost l G H.size a fu g L z_ (g25, L26) hf27) (kR rfl) hP hD hS 0 12 rfl (zat (by decide) ms_0) rfl hl.1 rfl (Nat.le_of_ble_eq_true rfl) dX12_pause_114 (fun x24 u_ H locs e_ hP hD hS => ?_)
              have e_ : x24 = z_ := e_
              subst e_
              have hP : va_P G.1 vwCl (zw G MS 51 a g25 L26) H := hP
              have hD : va_D A (zw G MS 51 a g25 L26) := hD
              refine lv_istore (lv' := [(6, .int x24), (0, .ref (a 0)), (1, .int v1), (2, .int v2), (3, .int v3), (4, .int v4), (5, .int v5)]) hx hb dX12_pause_117 hl (by decide) rfl (fun ls hl => ?_)
              refine lv_aload_n hx hb dX12_pause_119 rfl (lv_at hl 1 rfl) ?_
              refine lv_aload_n hx hb dX12_pause_120 rfl (lv_at hl 1 rfl) ?_
              refine x_getr (Or.inl fl_X12_150) C hP (by decide) ms_0 rfl dX12_pause_121 ?_
              refine lv_aload_n hx hb dX12_pause_124 rfl (lv_at hl 1 rfl) ?_
              refine x_getr (Or.inl fl_X12_50) C hP (by decide) ms_0 rfl dX12_pause_125 ?_
              obtain ⟨z_, g29, L30, hf31, h⟩ := cb_some h
              refine x_callVv (rest := []) li_X12_341 C (rX12_copies_42_12 l G H.size a fu g25 L26 z_ (g29, L30) hf31) (kR rfl) hP hD hS 0 12 rfl (zat (by decide) ms_0) rfl hl.1 rfl (Nat.le_of_ble_eq_true rfl) dX12_pause_128 (fun u_ H locs e_ hP hD hS => ?_)
              have hP : va_P G.1 vwCl (zw G MS 51 a g29 L30) H := hP
              have hD : va_D A (zw G MS 51 a g29 L30) := hD
              refine lv_iload_n hx hb dX12_pause_131 rfl (lv_at hl 4 rfl) ?_
              refine lv_iconst (v := -1) hx hb dX12_pause_132 (by decide) ?_
              have J176 : ∀ (v3 : Int32) (v4 : Int32) (v5 : Int32) (g : Nat → Nat → Int32) (L : Nat → Nat → Int64) (H : Heap) (locs : List Loc) (ls : Array Slot), fX12_pause_p176 fu k51 v1 v2 v3 v4 v5 g L = some (res, s9) → va_P G.1 vwCl (zw G MS 51 a g L) H → va_D A (zw G MS 51 a g L) → va_S A s.heap H locs → lv_has ls 7 [(0, .ref (a 0)), (1, .int v1), (2, .int v2), (3, .int v3), (4, .int v4), (5, .int v5)] → W p l e { frames := 12, cells := 0, slots := 0, locals := 250 } s m [.ref (a 0), .int p1, .int p2].toArray below meth c H locs 0 0 (MQ below ((kQi G (S := Unit) (fun r' _ => r' = res) (fun _ => zw G MS 51 a s9.1 s9.2)) A) [.ref (a 0), .int p1, .int p2].toArray s 0 0 A) (F0 m 176 ls []) := by
                intro v3 v4 v5 g L H locs ls h hP hD hS hl
                unfold fX12_pause_p176 at h
                refine lv_iinc (v := (v5 + 1)) (lv' := [(5, .int (v5 + 1)), (0, .ref (a 0)), (1, .int v1), (2, .int v2), (3, .int v3), (4, .int v4)]) hx hb dX12_pause_176 hl (k := 5) rfl rfl (by decide) rfl (fun ls hl => ?_)
                refine lv_goto (tgt := 51) hx hb dX12_pause_179 (by decide) ?_
                exact ih51 (v3, v4, (v5 + 1), g, L) h H locs ls hP hD hS (lv_sub hl [1, 2, 3, 4, 5, 0] rfl)
              have J164 : ∀ (v5 : Int32) (v6 : Int32) (g : Nat → Nat → Int32) (L : Nat → Nat → Int64) (H : Heap) (locs : List Loc) (ls : Array Slot), fX12_pause_p164 fu k51 v1 v2 v5 v6 g L = some (res, s9) → va_P G.1 vwCl (zw G MS 51 a g L) H → va_D A (zw G MS 51 a g L) → va_S A s.heap H locs → lv_has ls 7 [(0, .ref (a 0)), (1, .int v1), (2, .int v2), (5, .int v5), (6, .int v6)] → W p l e { frames := 12, cells := 0, slots := 0, locals := 250 } s m [.ref (a 0), .int p1, .int p2].toArray below meth c H locs 0 0 (MQ below ((kQi G (S := Unit) (fun r' _ => r' = res) (fun _ => zw G MS 51 a s9.1 s9.2)) A) [.ref (a 0), .int p1, .int p2].toArray s 0 0 A) (F0 m 164 ls []) := by
                intro v5 v6 g L H locs ls h hP hD hS hl
                unfold fX12_pause_p164 at h
                refine lv_aload_n hx hb dX12_pause_164 rfl (lv_at hl 0 rfl) ?_
                refine x_getr (Or.inl fl_X12_16) C hP (by decide) ms_0 rfl dX12_pause_165 ?_
                refine lv_iload hx hb dX12_pause_168 (lv_at hl 3 rfl) ?_
                refine y_ald C hP (by decide) ms_1 dX12_pause_170 h (fun h => ?_)
                refine y_let h (fun x32 h => ?_)
                refine lv_istore_n (lv' := [(3, .int x32), (0, .ref (a 0)), (1, .int v1), (2, .int v2), (5, .int v5), (6, .int v6)]) hx hb dX12_pause_171 rfl hl (by decide) rfl (fun ls hl => ?_)
                refine lv_iload hx hb dX12_pause_172 (lv_at hl 5 rfl) ?_
                refine lv_istore (lv' := [(4, .int v6), (3, .int x32), (0, .ref (a 0)), (1, .int v1), (2, .int v2), (5, .int v5), (6, .int v6)]) hx hb dX12_pause_174 hl (by decide) rfl (fun ls hl => ?_)
                exact J176 x32 v6 v5 g L H locs ls h hP hD hS (lv_sub hl [2, 3, 4, 1, 0, 5] rfl)
              refine lv_icmp_eq (x := v3) (y := (-1)) (tgt := 164) hx hb dX12_pause_133 (by decide) (fun c33 => ?_) (fun c33 => ?_)
              ·
                have h := ite_t c33 h
                exact J164 v5 x24 g29 L30 H locs ls h hP hD hS (lv_sub hl [1, 2, 3, 6, 0] rfl)
              ·
                have h := ite_e c33 h
                refine lv_iload hx hb dX12_pause_136 (lv_at hl 0 rfl) ?_
                refine lv_iload hx hb dX12_pause_138 (lv_at hl 5 rfl) ?_
                refine lv_icmp_gt (x := x24) (y := v4) (tgt := 176) hx hb dX12_pause_140 (by decide) (fun c34 => ?_) (fun c34 => ?_)
                ·
                  have h := ite_t c34 h
                  exact J176 v3 v4 v5 g29 L30 H locs ls h hP hD hS (lv_sub hl [1, 2, 3, 4, 5, 6] rfl)
                ·
                  have h := ite_e c34 h
                  refine lv_iload hx hb dX12_pause_143 (lv_at hl 0 rfl) ?_
                  refine lv_iload hx hb dX12_pause_145 (lv_at hl 5 rfl) ?_
                  refine lv_icmp_ne (x := x24) (y := v4) (tgt := 164) hx hb dX12_pause_147 (by decide) (fun c35 => ?_) (fun c35 => ?_)
                  ·
                    have h := ite_e c35 h
                    exact J164 v5 x24 g29 L30 H locs ls h hP hD hS (lv_sub hl [1, 2, 3, 6, 0] rfl)
                  ·
                    have h := ite_t c35 h
                    refine lv_aload_n hx hb dX12_pause_150 rfl (lv_at hl 1 rfl) ?_
                    refine x_getr (Or.inl fl_X12_16) C hP (by decide) ms_0 rfl dX12_pause_151 ?_
                    refine lv_iload hx hb dX12_pause_154 (lv_at hl 6 rfl) ?_
                    refine y_ald C hP (by decide) ms_1 dX12_pause_156 h (fun h => ?_)
                    refine lv_iload_n hx hb dX12_pause_157 rfl (lv_at hl 4 rfl) ?_
                    refine lv_icmp_lt (x := (g29 1 (Int32.toNatClampNeg v5))) (y := v3) (tgt := 164) hx hb dX12_pause_158 (by decide) (fun c36 => ?_) (fun c36 => ?_)
                    ·
                      have h := ite_t c36 h
                      exact J164 v5 x24 g29 L30 H locs ls h hP hD hS (lv_sub hl [1, 2, 3, 6, 0] rfl)
                    ·
                      have h := ite_e c36 h
                      refine lv_goto (tgt := 176) hx hb dX12_pause_161 (by decide) ?_
                      exact J176 v3 v4 v5 g29 L30 H locs ls h hP hD hS (lv_sub hl [1, 2, 3, 4, 5, 6] rfl)
            ·
              have h := ite_e c23 h
              refine lv_aload_n hx hb dX12_pause_72 rfl (lv_at hl 0 rfl) ?_
              refine x_getr (Or.inl fl_X12_50) C hP (by decide) ms_0 rfl dX12_pause_73 ?_
              refine lv_bipush (v := 12) hx hb dX12_pause_76 (by decide) ?_
              refine lv_iload hx hb dX12_pause_78 (lv_at hl 6 rfl) ?_
              refine lv_iadd hx hb dX12_pause_80 ?_
              refine lv_dup2_11 hx hb dX12_pause_81 rfl rfl ?_
              refine y_ald C hP (by decide) ms_12 dX12_pause_82 h (fun h => ?_)
              refine lv_aload_n hx hb dX12_pause_83 rfl (lv_at hl 0 rfl) ?_
              refine x_getr (Or.inl fl_X12_16) C hP (by decide) ms_0 rfl dX12_pause_84 ?_
              refine lv_iload hx hb dX12_pause_87 (lv_at hl 6 rfl) ?_
              refine y_ald C hP (by decide) ms_1 dX12_pause_89 h (fun h => ?_)
              refine lv_aload_n hx hb dX12_pause_90 rfl (lv_at hl 0 rfl) ?_
              refine x_getr (Or.inl fl_X12_16) C hP (by decide) ms_0 rfl dX12_pause_91 ?_
              refine lv_iload hx hb dX12_pause_94 (lv_at hl 5 rfl) ?_
              refine y_ald C hP (by decide) ms_1 dX12_pause_96 h (fun h => ?_)
              have J105 : ∀ (v6 : Int32) (t0 : Int32) (t1 : Int32) (t2 : Int32) (g : Nat → Nat → Int32) (L : Nat → Nat → Int64) (H : Heap) (locs : List Loc) (ls : Array Slot), fX12_pause_p105 fu k51 k63 v1 v2 v3 v4 v5 v6 t0 t1 t2 g L = some (res, s9) → va_P G.1 vwCl (zw G MS 51 a g L) H → va_D A (zw G MS 51 a g L) → va_S A s.heap H locs → lv_has ls 7 [(0, .ref (a 0)), (1, .int v1), (2, .int v2), (3, .int v3), (4, .int v4), (5, .int v5), (6, .int v6)] → W p l e { frames := 12, cells := 0, slots := 0, locals := 250 } s m [.ref (a 0), .int p1, .int p2].toArray below meth c H locs 0 0 (MQ below ((kQi G (S := Unit) (fun r' _ => r' = res) (fun _ => zw G MS 51 a s9.1 s9.2)) A) [.ref (a 0), .int p1, .int p2].toArray s 0 0 A) (F0 m 105 ls [.int t0, .int t1, .int t2, .ref (a 12)]) := by
                intro v6 t0 t1 t2 g L H locs ls h hP hD hS hl
                unfold fX12_pause_p105 at h
                refine lv_iadd hx hb dX12_pause_105 ?_
                refine y_ast C hP hD hS (by decide) ms_12 dX12_pause_106 h (fun g37 H locs h hP hD hS => ?_)
                refine lv_iinc (v := (v6 + 1)) (lv' := [(6, .int (v6 + 1)), (0, .ref (a 0)), (1, .int v1), (2, .int v2), (3, .int v3), (4, .int v4), (5, .int v5)]) hx hb dX12_pause_107 hl (k := 6) rfl rfl (by decide) rfl (fun ls hl => ?_)
                refine lv_goto (tgt := 63) hx hb dX12_pause_110 (by decide) ?_
                exact ih63 ((v6 + 1), g37, L) h H locs ls hP hD hS (lv_sub hl [1, 2, 3, 4, 5, 6, 0] rfl)
              refine lv_icmp_lt (x := (g 1 (Int32.toNatClampNeg v6))) (y := (g 1 (Int32.toNatClampNeg v5))) (tgt := 104) hx hb dX12_pause_97 (by decide) (fun c38 => ?_) (fun c38 => ?_)
              ·
                have h := ite_t c38 h
                refine lv_iconst (v := 0) hx hb dX12_pause_104 (by decide) ?_
                exact J105 v6 0 (g 12 (Int32.toNatClampNeg (12 + v6))) (12 + v6) g L H locs ls h hP hD hS (lv_sub hl [0, 1, 2, 3, 4, 5, 6] rfl)
              ·
                have h := ite_e c38 h
                refine lv_iload_n hx hb dX12_pause_100 rfl (lv_at hl 1 rfl) ?_
                refine lv_goto (tgt := 105) hx hb dX12_pause_101 (by decide) ?_
                exact J105 v6 v1 (g 12 (Int32.toNatClampNeg (12 + v6))) (12 + v6) g L H locs ls h hP hD hS (lv_sub hl [0, 1, 2, 3, 4, 5, 6] rfl)
          exact lp63 v3 v4 v5 fu (0, g, L) h H locs ls hP hD hS (lv_sub hl [1, 2, 3, 4, 5, 6, 0] rfl)
      exact lp51 p1 p2 fu ((-1), 0, 0, g17, L18) h H locs ls hP hD hS (lv_sub hl [3, 4, 5, 2, 1, 0] rfl)
    ·
      have h := ite_t c15 h
      exact J29 g12 L13 H locs ls h hP hD hS (lv_sub hl [] rfl)
def fX12_shift_p22 (fu : Nat) (g : Nat → Nat → Int32) (L : Nat → Nat → Int64) : Option ((Int32) × zS) :=
  some (0, (g, L))
def fX12_shift_p165 (fu : Nat) (t0 : Int32) (g : Nat → Nat → Int32) (L : Nat → Nat → Int64) : Option ((Int32) × zS) :=
  some (t0, (g, L))
def fX12_shift_p133 (fu : Nat) (k52 : Int32 × Int32 × Int32 × Int32 × (Nat → Nat → Int32) × (Nat → Nat → Int64) → Option ((Int32) × zS)) (v1 : Int32) (v2 : Int32) (v3 : Int32) (v4 : Int32) (v5 : Int32) (v6 : Int32) (v7 : Int32) (v8 : Int32) (g : Nat → Nat → Int32) (L : Nat → Nat → Int64) : Option ((Int32) × zS) :=
  k52 (v5, v6, v7, (v8 + 1), g, L)
def fX12_shift_p122 (fu : Nat) (k52 : Int32 × Int32 × Int32 × Int32 × (Nat → Nat → Int32) × (Nat → Nat → Int64) → Option ((Int32) × zS)) (v1 : Int32) (v2 : Int32) (v3 : Int32) (v4 : Int32) (v8 : Int32) (v9 : Int32) (g : Nat → Nat → Int32) (L : Nat → Nat → Int64) : Option ((Int32) × zS) :=
  fX12_shift_p133 fu k52 v1 v2 v3 v4 1 v8 v9 v8 g L
def fX12_shift_s52 (fu : Nat) (v1 : Int32) (v2 : Int32) (v3 : Int32) (v4 : Int32) (k52 : Int32 × Int32 × Int32 × Int32 × (Nat → Nat → Int32) × (Nat → Nat → Int64) → Option ((Int32) × zS)) (v5 : Int32) (v6 : Int32) (v7 : Int32) (v8 : Int32) (g : Nat → Nat → Int32) (L : Nat → Nat → Int64) : Option ((Int32) × zS) :=
  if 20 < (v8 : Int32) then ck v1 12 (sti g 1 (Int32.toNatClampNeg v1) v3 (fun g15 =>
  ck v1 12 (sti g15 2 (Int32.toNatClampNeg v1) v4 (fun g16 =>
  if v2 = 0 then fX12_shift_p165 fu v6 g16 L
  else fX12_shift_p165 fu v7 g16 L))))
  else if (v3 + v8) < 0 then fX12_shift_p133 fu k52 v1 v2 v3 v4 v5 v6 v7 v8 g L
  else if (v4 + v8) ≤ 999 then ck v1 12 (sti g 1 (Int32.toNatClampNeg v1) (v3 + v8) (fun g20 =>
  ck v1 12 (sti g20 2 (Int32.toNatClampNeg v1) (v4 + v8) (fun g21 =>
  cb (fX12_lost fu g21 L) (fun x22 g23 L24 =>
  if v5 = 0 then fX12_shift_p122 fu k52 v1 v2 v3 v4 v8 x22 g23 L24
  else if (x22 : Int32) < v7 then fX12_shift_p122 fu k52 v1 v2 v3 v4 v8 x22 g23 L24
  else fX12_shift_p133 fu k52 v1 v2 v3 v4 v5 v6 v7 v8 g23 L24)))))
  else fX12_shift_p133 fu k52 v1 v2 v3 v4 v5 v6 v7 v8 g L
def fX12_shift_l52 (fu : Nat) (v1 : Int32) (v2 : Int32) (v3 : Int32) (v4 : Int32) (v5 : Int32) (v6 : Int32) (v7 : Int32) (v8 : Int32) (g : Nat → Nat → Int32) (L : Nat → Nat → Int64) : Option ((Int32) × zS) :=
  whileK (fun k v => fX12_shift_s52 fu v1 v2 v3 v4 k v.1 v.2.1 v.2.2.1 v.2.2.2.1 v.2.2.2.2.1 v.2.2.2.2.2) fu (v5, v6, v7, v8, g, L)
def fX12_shift (fu : Nat) (p1 : Int32) (p2 : Int32) (g : Nat → Nat → Int32) (L : Nat → Nat → Int64) : Option ((Int32) × zS) :=
  sti g 0 0 0 (fun g1 =>
  cb (fX12_isLesson fu p1 g1 L) (fun x2 g3 L4 =>
  if x2 = 0 then fX12_shift_p22 fu g3 L4
  else cb (fX12_isWhat fu p2 1 g3 L4) (fun x7 g8 L9 =>
  if x7 = 0 then fX12_shift_p22 fu g8 L9
  else ck p1 12 (
  lti (g8 1 (Int32.toNatClampNeg p1)) (fun x12 =>
  ck p1 12 (
  lti (g8 2 (Int32.toNatClampNeg p1)) (fun x13 =>
  fX12_shift_l52 fu p1 p2 x12 x13 0 0 0 (-20) g8 L9)))))))
set_option maxHeartbeats 4000000 in
set_option maxRecDepth 100000 in
theorem rX12_shift (l : Launch) (G : kG) (sz : Nat) (a : Nat → Nat) (fu : Nat) (g : Nat → Nat → Int32) (L : Nat → Nat → Int64) (p1 : Int32) (p2 : Int32) (res : Int32) (s9 : zS) (h : fX12_shift fu p1 p2 g L = some (res, s9)) : kM l yX12_shift cX12_shift 10 (some .int) { frames := 12, cells := 0, slots := 0, locals := 250 } G [.ref (a 0), .int p1, .int p2] (zw G MS 51 a g L) sz (kQi G (S := Unit) (fun r' _ => r' = res) (fun _ => zw G MS 51 a s9.1 s9.2)) := by
  refine kM.of (by decide) (Nat.le_of_ble_eq_true rfl) ?_
  intro p e s m below meth c A ls H C hr hlk hnm hP hD hS hl
  have C : kC G p s m c cX12_shift 10 RX12 A := C
  have hx := C.1
  have hb := C.2.1
  have hl : lv_has ls 10 [(0, .ref (a 0)), (1, .int p1), (2, .int p2)] := hl
  obtain ⟨locs, hlocs⟩ : ∃ q : List Loc, q = [] := ⟨_, rfl⟩
  rw [← hlocs] at hS
  rw [← hlocs]
  unfold fX12_shift at h
  refine lv_aload_n hx hb dX12_shift_0 rfl (lv_at hl 0 rfl) ?_
  refine lv_iconst (v := 0) hx hb dX12_shift_1 (by decide) ?_
  refine y_puti (Or.inl fl_X12_177) ft_X12_0 C hP hD hS (by decide) ms_0 rfl rfl rfl dX12_shift_2 h (fun g1 H locs h hP hD hS => ?_)
  refine lv_aload_n hx hb dX12_shift_5 rfl (lv_at hl 0 rfl) ?_
  refine lv_iload_n hx hb dX12_shift_6 rfl (lv_at hl 1 rfl) ?_
  obtain ⟨z_, g3, L4, hf5, h⟩ := cb_some h
  refine x_callVi (rest := []) li_X12_402 C (rX12_isLesson l G H.size a fu g1 L p1 z_ (g3, L4) hf5) (kR rfl) hP hD hS 0 12 rfl (zat (by decide) ms_0) rfl hl.1 rfl (Nat.le_of_ble_eq_true rfl) dX12_shift_7 (fun x2 u_ H locs e_ hP hD hS => ?_)
  have e_ : x2 = z_ := e_
  subst e_
  have hP : va_P G.1 vwCl (zw G MS 51 a g3 L4) H := hP
  have hD : va_D A (zw G MS 51 a g3 L4) := hD
  have J22 : ∀ (g : Nat → Nat → Int32) (L : Nat → Nat → Int64) (H : Heap) (locs : List Loc) (ls : Array Slot), fX12_shift_p22 fu g L = some (res, s9) → va_P G.1 vwCl (zw G MS 51 a g L) H → va_D A (zw G MS 51 a g L) → va_S A s.heap H locs → lv_has ls 10 [] → W p l e { frames := 12, cells := 0, slots := 0, locals := 250 } s m [.ref (a 0), .int p1, .int p2].toArray below meth c H locs 0 0 (MQ below ((kQi G (S := Unit) (fun r' _ => r' = res) (fun _ => zw G MS 51 a s9.1 s9.2)) A) [.ref (a 0), .int p1, .int p2].toArray s 0 0 A) (F0 m 22 ls []) := by
    intro g L H locs ls h hP hD hS hl
    unfold fX12_shift_p22 at h
    refine lv_iconst (v := 0) hx hb dX12_shift_22 (by decide) ?_
    exact y_iret C hr hlk hP hD hS h (Nat.le_of_ble_eq_true rfl) (Nat.le_of_ble_eq_true rfl) dX12_shift_23
  refine lv_if_eq (x := x2) (tgt := 22) hx hb dX12_shift_10 (by decide) (fun c6 => ?_) (fun c6 => ?_)
  ·
    have h := ite_t c6 h
    exact J22 g3 L4 H locs ls h hP hD hS (lv_sub hl [] rfl)
  ·
    have h := ite_e c6 h
    refine lv_aload_n hx hb dX12_shift_13 rfl (lv_at hl 0 rfl) ?_
    refine lv_iload_n hx hb dX12_shift_14 rfl (lv_at hl 2 rfl) ?_
    refine lv_iconst (v := 1) hx hb dX12_shift_15 (by decide) ?_
    obtain ⟨z_, g8, L9, hf10, h⟩ := cb_some h
    refine x_callVi (rest := []) li_X12_405 C (rX12_isWhat l G H.size a fu g3 L4 p2 1 z_ (g8, L9) hf10) (kR rfl) hP hD hS 0 12 rfl (zat (by decide) ms_0) rfl hl.1 rfl (Nat.le_of_ble_eq_true rfl) dX12_shift_16 (fun x7 u_ H locs e_ hP hD hS => ?_)
    have e_ : x7 = z_ := e_
    subst e_
    have hP : va_P G.1 vwCl (zw G MS 51 a g8 L9) H := hP
    have hD : va_D A (zw G MS 51 a g8 L9) := hD
    refine lv_if_ne (x := x7) (tgt := 24) hx hb dX12_shift_19 (by decide) (fun c11 => ?_) (fun c11 => ?_)
    ·
      have h := ite_e c11 h
      refine lv_aload_n hx hb dX12_shift_24 rfl (lv_at hl 0 rfl) ?_
      refine x_getr (Or.inl fl_X12_16) C hP (by decide) ms_0 rfl dX12_shift_25 ?_
      refine lv_iload_n hx hb dX12_shift_28 rfl (lv_at hl 1 rfl) ?_
      refine y_ald C hP (by decide) ms_1 dX12_shift_29 h (fun h => ?_)
      refine y_let h (fun x12 h => ?_)
      refine lv_istore_n (lv' := [(3, .int x12), (0, .ref (a 0)), (1, .int p1), (2, .int p2)]) hx hb dX12_shift_30 rfl hl (by decide) rfl (fun ls hl => ?_)
      refine lv_aload_n hx hb dX12_shift_31 rfl (lv_at hl 1 rfl) ?_
      refine x_getr (Or.inl fl_X12_20) C hP (by decide) ms_0 rfl dX12_shift_32 ?_
      refine lv_iload_n hx hb dX12_shift_35 rfl (lv_at hl 2 rfl) ?_
      refine y_ald C hP (by decide) ms_2 dX12_shift_36 h (fun h => ?_)
      refine y_let h (fun x13 h => ?_)
      refine lv_istore (lv' := [(4, .int x13), (3, .int x12), (0, .ref (a 0)), (1, .int p1), (2, .int p2)]) hx hb dX12_shift_37 hl (by decide) rfl (fun ls hl => ?_)
      refine lv_iconst (v := 0) hx hb dX12_shift_39 (by decide) ?_
      refine lv_istore (lv' := [(5, .int 0), (4, .int x13), (3, .int x12), (0, .ref (a 0)), (1, .int p1), (2, .int p2)]) hx hb dX12_shift_40 hl (by decide) rfl (fun ls hl => ?_)
      refine lv_iconst (v := 0) hx hb dX12_shift_42 (by decide) ?_
      refine lv_istore (lv' := [(6, .int 0), (5, .int 0), (4, .int x13), (3, .int x12), (0, .ref (a 0)), (1, .int p1), (2, .int p2)]) hx hb dX12_shift_43 hl (by decide) rfl (fun ls hl => ?_)
      refine lv_iconst (v := 0) hx hb dX12_shift_45 (by decide) ?_
      refine lv_istore (lv' := [(7, .int 0), (6, .int 0), (5, .int 0), (4, .int x13), (3, .int x12), (0, .ref (a 0)), (1, .int p1), (2, .int p2)]) hx hb dX12_shift_46 hl (by decide) rfl (fun ls hl => ?_)
      refine lv_bipush (v := -20) hx hb dX12_shift_48 (by decide) ?_
      refine lv_istore (lv' := [(8, .int (-20)), (7, .int 0), (6, .int 0), (5, .int 0), (4, .int x13), (3, .int x12), (0, .ref (a 0)), (1, .int p1), (2, .int p2)]) hx hb dX12_shift_50 hl (by decide) rfl (fun ls hl => ?_)
      have lp52 : ∀ (v1 : Int32) (v2 : Int32) (v3 : Int32) (v4 : Int32), ∀ (n : Nat) (v : Int32 × Int32 × Int32 × Int32 × (Nat → Nat → Int32) × (Nat → Nat → Int64)), whileK (fun k v => fX12_shift_s52 fu v1 v2 v3 v4 k v.1 v.2.1 v.2.2.1 v.2.2.2.1 v.2.2.2.2.1 v.2.2.2.2.2) n v = some (res, s9) → ∀ (H : Heap) (locs : List Loc) (ls : Array Slot), va_P G.1 vwCl (zw G MS 51 a (v.2.2.2.2.1) (v.2.2.2.2.2)) H → va_D A (zw G MS 51 a (v.2.2.2.2.1) (v.2.2.2.2.2)) → va_S A s.heap H locs → lv_has ls 10 [(0, .ref (a 0)), (1, .int v1), (2, .int v2), (3, .int v3), (4, .int v4), (5, .int (v.1)), (6, .int (v.2.1)), (7, .int (v.2.2.1)), (8, .int (v.2.2.2.1))] → W p l e { frames := 12, cells := 0, slots := 0, locals := 250 } s m [.ref (a 0), .int p1, .int p2].toArray below meth c H locs 0 0 (MQ below ((kQi G (S := Unit) (fun r' _ => r' = res) (fun _ => zw G MS 51 a s9.1 s9.2)) A) [.ref (a 0), .int p1, .int p2].toArray s 0 0 A) (F0 m 52 ls []) := by
        intro v1 v2 v3 v4
        refine while_ind (fun k52 ih52 v h => ?_)
        obtain ⟨v5, v6, v7, v8, g, L⟩ := v
        intro H locs ls hP hD hS hl
        have h : fX12_shift_s52 fu v1 v2 v3 v4 k52 v5 v6 v7 v8 g L = some (res, s9) := h
        have hP : va_P G.1 vwCl (zw G MS 51 a g L) H := hP
        have hD : va_D A (zw G MS 51 a g L) := hD
        have hl : lv_has ls 10 [(0, .ref (a 0)), (1, .int v1), (2, .int v2), (3, .int v3), (4, .int v4), (5, .int v5), (6, .int v6), (7, .int v7), (8, .int v8)] := hl
        show W p l e { frames := 12, cells := 0, slots := 0, locals := 250 } s m [.ref (a 0), .int p1, .int p2].toArray below meth c H locs 0 0 (MQ below ((kQi G (S := Unit) (fun r' _ => r' = res) (fun _ => zw G MS 51 a s9.1 s9.2)) A) [.ref (a 0), .int p1, .int p2].toArray s 0 0 A) (F0 m 52 ls [])
        unfold fX12_shift_s52 at h
        refine lv_iload hx hb dX12_shift_52 (lv_at hl 8 rfl) ?_
        refine lv_bipush (v := 20) hx hb dX12_shift_54 (by decide) ?_
        refine lv_icmp_gt (x := v8) (y := 20) (tgt := 139) hx hb dX12_shift_56 (by decide) (fun c14 => ?_) (fun c14 => ?_)
        ·
          have h := ite_t c14 h
          refine lv_aload_n hx hb dX12_shift_139 rfl (lv_at hl 0 rfl) ?_
          refine x_getr (Or.inl fl_X12_16) C hP (by decide) ms_0 rfl dX12_shift_140 ?_
          refine lv_iload_n hx hb dX12_shift_143 rfl (lv_at hl 1 rfl) ?_
          refine lv_iload_n hx hb dX12_shift_144 rfl (lv_at hl 3 rfl) ?_
          refine y_ast C hP hD hS (by decide) ms_1 dX12_shift_145 h (fun g15 H locs h hP hD hS => ?_)
          refine lv_aload_n hx hb dX12_shift_146 rfl (lv_at hl 0 rfl) ?_
          refine x_getr (Or.inl fl_X12_20) C hP (by decide) ms_0 rfl dX12_shift_147 ?_
          refine lv_iload_n hx hb dX12_shift_150 rfl (lv_at hl 1 rfl) ?_
          refine lv_iload hx hb dX12_shift_151 (lv_at hl 4 rfl) ?_
          refine y_ast C hP hD hS (by decide) ms_2 dX12_shift_153 h (fun g16 H locs h hP hD hS => ?_)
          refine lv_iload_n hx hb dX12_shift_154 rfl (lv_at hl 2 rfl) ?_
          have J165 : ∀ (t0 : Int32) (g : Nat → Nat → Int32) (L : Nat → Nat → Int64) (H : Heap) (locs : List Loc) (ls : Array Slot), fX12_shift_p165 fu t0 g L = some (res, s9) → va_P G.1 vwCl (zw G MS 51 a g L) H → va_D A (zw G MS 51 a g L) → va_S A s.heap H locs → lv_has ls 10 [] → W p l e { frames := 12, cells := 0, slots := 0, locals := 250 } s m [.ref (a 0), .int p1, .int p2].toArray below meth c H locs 0 0 (MQ below ((kQi G (S := Unit) (fun r' _ => r' = res) (fun _ => zw G MS 51 a s9.1 s9.2)) A) [.ref (a 0), .int p1, .int p2].toArray s 0 0 A) (F0 m 165 ls [.int t0]) := by
            intro t0 g L H locs ls h hP hD hS hl
            unfold fX12_shift_p165 at h
            exact y_iret C hr hlk hP hD hS h (Nat.le_of_ble_eq_true rfl) (Nat.le_of_ble_eq_true rfl) dX12_shift_165
          refine lv_if_ne (x := v2) (tgt := 163) hx hb dX12_shift_155 (by decide) (fun c17 => ?_) (fun c17 => ?_)
          ·
            have h := ite_e c17 h
            refine lv_iload hx hb dX12_shift_163 (lv_at hl 7 rfl) ?_
            exact J165 v7 g16 L H locs ls h hP hD hS (lv_sub hl [] rfl)
          ·
            have h := ite_t c17 h
            refine lv_iload hx hb dX12_shift_158 (lv_at hl 6 rfl) ?_
            refine lv_goto (tgt := 165) hx hb dX12_shift_160 (by decide) ?_
            exact J165 v6 g16 L H locs ls h hP hD hS (lv_sub hl [] rfl)
        ·
          have h := ite_e c14 h
          refine lv_iload_n hx hb dX12_shift_59 rfl (lv_at hl 3 rfl) ?_
          refine lv_iload hx hb dX12_shift_60 (lv_at hl 8 rfl) ?_
          refine lv_iadd hx hb dX12_shift_62 ?_
          have J133 : ∀ (v5 : Int32) (v6 : Int32) (v7 : Int32) (v8 : Int32) (g : Nat → Nat → Int32) (L : Nat → Nat → Int64) (H : Heap) (locs : List Loc) (ls : Array Slot), fX12_shift_p133 fu k52 v1 v2 v3 v4 v5 v6 v7 v8 g L = some (res, s9) → va_P G.1 vwCl (zw G MS 51 a g L) H → va_D A (zw G MS 51 a g L) → va_S A s.heap H locs → lv_has ls 10 [(0, .ref (a 0)), (1, .int v1), (2, .int v2), (3, .int v3), (4, .int v4), (5, .int v5), (6, .int v6), (7, .int v7), (8, .int v8)] → W p l e { frames := 12, cells := 0, slots := 0, locals := 250 } s m [.ref (a 0), .int p1, .int p2].toArray below meth c H locs 0 0 (MQ below ((kQi G (S := Unit) (fun r' _ => r' = res) (fun _ => zw G MS 51 a s9.1 s9.2)) A) [.ref (a 0), .int p1, .int p2].toArray s 0 0 A) (F0 m 133 ls []) := by
            intro v5 v6 v7 v8 g L H locs ls h hP hD hS hl
            unfold fX12_shift_p133 at h
            refine lv_iinc (v := (v8 + 1)) (lv' := [(8, .int (v8 + 1)), (0, .ref (a 0)), (1, .int v1), (2, .int v2), (3, .int v3), (4, .int v4), (5, .int v5), (6, .int v6), (7, .int v7)]) hx hb dX12_shift_133 hl (k := 8) rfl rfl (by decide) rfl (fun ls hl => ?_)
            refine lv_goto (tgt := 52) hx hb dX12_shift_136 (by decide) ?_
            exact ih52 (v5, v6, v7, (v8 + 1), g, L) h H locs ls hP hD hS (lv_sub hl [1, 2, 3, 4, 5, 6, 7, 8, 0] rfl)
          refine lv_if_lt (x := (v3 + v8)) (tgt := 133) hx hb dX12_shift_63 (by decide) (fun c18 => ?_) (fun c18 => ?_)
          ·
            have h := ite_t c18 h
            exact J133 v5 v6 v7 v8 g L H locs ls h hP hD hS (lv_sub hl [0, 1, 2, 3, 4, 5, 6, 7, 8] rfl)
          ·
            have h := ite_e c18 h
            refine lv_iload hx hb dX12_shift_66 (lv_at hl 4 rfl) ?_
            refine lv_iload hx hb dX12_shift_68 (lv_at hl 8 rfl) ?_
            refine lv_iadd hx hb dX12_shift_70 ?_
            refine lv_sipush (v := 999) hx hb dX12_shift_71 (by decide) ?_
            refine lv_icmp_le (x := (v4 + v8)) (y := 999) (tgt := 80) hx hb dX12_shift_74 (by decide) (fun c19 => ?_) (fun c19 => ?_)
            ·
              have h := ite_t c19 h
              refine lv_aload_n hx hb dX12_shift_80 rfl (lv_at hl 0 rfl) ?_
              refine x_getr (Or.inl fl_X12_16) C hP (by decide) ms_0 rfl dX12_shift_81 ?_
              refine lv_iload_n hx hb dX12_shift_84 rfl (lv_at hl 1 rfl) ?_
              refine lv_iload_n hx hb dX12_shift_85 rfl (lv_at hl 3 rfl) ?_
              refine lv_iload hx hb dX12_shift_86 (lv_at hl 8 rfl) ?_
              refine lv_iadd hx hb dX12_shift_88 ?_
              refine y_ast C hP hD hS (by decide) ms_1 dX12_shift_89 h (fun g20 H locs h hP hD hS => ?_)
              refine lv_aload_n hx hb dX12_shift_90 rfl (lv_at hl 0 rfl) ?_
              refine x_getr (Or.inl fl_X12_20) C hP (by decide) ms_0 rfl dX12_shift_91 ?_
              refine lv_iload_n hx hb dX12_shift_94 rfl (lv_at hl 1 rfl) ?_
              refine lv_iload hx hb dX12_shift_95 (lv_at hl 4 rfl) ?_
              refine lv_iload hx hb dX12_shift_97 (lv_at hl 8 rfl) ?_
              refine lv_iadd hx hb dX12_shift_99 ?_
              refine y_ast C hP hD hS (by decide) ms_2 dX12_shift_100 h (fun g21 H locs h hP hD hS => ?_)
              refine lv_aload_n hx hb dX12_shift_101 rfl (lv_at hl 0 rfl) ?_
              obtain ⟨z_, g23, L24, hf25, h⟩ := cb_some h
              refine x_callVi (rest := []) li_X12_399 C (rX12_lost l G H.size a fu g21 L z_ (g23, L24) hf25) (kR rfl) hP hD hS 0 12 rfl (zat (by decide) ms_0) rfl hl.1 rfl (Nat.le_of_ble_eq_true rfl) dX12_shift_102 (fun x22 u_ H locs e_ hP hD hS => ?_)
              have e_ : x22 = z_ := e_
              subst e_
              have hP : va_P G.1 vwCl (zw G MS 51 a g23 L24) H := hP
              have hD : va_D A (zw G MS 51 a g23 L24) := hD
              refine lv_istore (lv' := [(9, .int x22), (0, .ref (a 0)), (1, .int v1), (2, .int v2), (3, .int v3), (4, .int v4), (5, .int v5), (6, .int v6), (7, .int v7), (8, .int v8)]) hx hb dX12_shift_105 hl (by decide) rfl (fun ls hl => ?_)
              refine lv_iload hx hb dX12_shift_107 (lv_at hl 6 rfl) ?_
              have J122 : ∀ (v8 : Int32) (v9 : Int32) (g : Nat → Nat → Int32) (L : Nat → Nat → Int64) (H : Heap) (locs : List Loc) (ls : Array Slot), fX12_shift_p122 fu k52 v1 v2 v3 v4 v8 v9 g L = some (res, s9) → va_P G.1 vwCl (zw G MS 51 a g L) H → va_D A (zw G MS 51 a g L) → va_S A s.heap H locs → lv_has ls 10 [(0, .ref (a 0)), (1, .int v1), (2, .int v2), (3, .int v3), (4, .int v4), (8, .int v8), (9, .int v9)] → W p l e { frames := 12, cells := 0, slots := 0, locals := 250 } s m [.ref (a 0), .int p1, .int p2].toArray below meth c H locs 0 0 (MQ below ((kQi G (S := Unit) (fun r' _ => r' = res) (fun _ => zw G MS 51 a s9.1 s9.2)) A) [.ref (a 0), .int p1, .int p2].toArray s 0 0 A) (F0 m 122 ls []) := by
                intro v8 v9 g L H locs ls h hP hD hS hl
                unfold fX12_shift_p122 at h
                refine lv_iconst (v := 1) hx hb dX12_shift_122 (by decide) ?_
                refine lv_istore (lv' := [(5, .int 1), (0, .ref (a 0)), (1, .int v1), (2, .int v2), (3, .int v3), (4, .int v4), (8, .int v8), (9, .int v9)]) hx hb dX12_shift_123 hl (by decide) rfl (fun ls hl => ?_)
                refine lv_iload hx hb dX12_shift_125 (lv_at hl 6 rfl) ?_
                refine lv_istore (lv' := [(6, .int v8), (5, .int 1), (0, .ref (a 0)), (1, .int v1), (2, .int v2), (3, .int v3), (4, .int v4), (8, .int v8), (9, .int v9)]) hx hb dX12_shift_127 hl (by decide) rfl (fun ls hl => ?_)
                refine lv_iload hx hb dX12_shift_129 (lv_at hl 8 rfl) ?_
                refine lv_istore (lv' := [(7, .int v9), (6, .int v8), (5, .int 1), (0, .ref (a 0)), (1, .int v1), (2, .int v2), (3, .int v3), (4, .int v4), (8, .int v8), (9, .int v9)]) hx hb dX12_shift_131 hl (by decide) rfl (fun ls hl => ?_)
                exact J133 1 v8 v9 v8 g L H locs ls h hP hD hS (lv_sub hl [3, 4, 5, 6, 7, 2, 1, 0, 8] rfl)
              refine lv_if_eq (x := v5) (tgt := 122) hx hb dX12_shift_109 (by decide) (fun c26 => ?_) (fun c26 => ?_)
              ·
                have h := ite_t c26 h
                exact J122 v8 x22 g23 L24 H locs ls h hP hD hS (lv_sub hl [1, 2, 3, 4, 5, 9, 0] rfl)
              ·
                have h := ite_e c26 h
                refine lv_iload hx hb dX12_shift_112 (lv_at hl 0 rfl) ?_
                refine lv_iload hx hb dX12_shift_114 (lv_at hl 8 rfl) ?_
                refine lv_icmp_lt (x := x22) (y := v7) (tgt := 122) hx hb dX12_shift_116 (by decide) (fun c27 => ?_) (fun c27 => ?_)
                ·
                  have h := ite_t c27 h
                  exact J122 v8 x22 g23 L24 H locs ls h hP hD hS (lv_sub hl [1, 2, 3, 4, 5, 9, 0] rfl)
                ·
                  have h := ite_e c27 h
                  refine lv_goto (tgt := 133) hx hb dX12_shift_119 (by decide) ?_
                  exact J133 v5 v6 v7 v8 g23 L24 H locs ls h hP hD hS (lv_sub hl [1, 2, 3, 4, 5, 6, 7, 8, 9] rfl)
            ·
              have h := ite_e c19 h
              refine lv_goto (tgt := 133) hx hb dX12_shift_77 (by decide) ?_
              exact J133 v5 v6 v7 v8 g L H locs ls h hP hD hS (lv_sub hl [0, 1, 2, 3, 4, 5, 6, 7, 8] rfl)
      exact lp52 p1 p2 x12 x13 fu (0, 0, 0, (-20), g8, L9) h H locs ls hP hD hS (lv_sub hl [6, 7, 8, 5, 4, 3, 2, 1, 0] rfl)
    ·
      have h := ite_t c11 h
      exact J22 g8 L9 H locs ls h hP hD hS (lv_sub hl [] rfl)
