theorem dL_law_1968 : decode cL_law 1968 = .ok (.aload_n 1, 1) := by decide +kernel
theorem tw_708 : (Jvm.Cond.methodLink "MarshBellsLaw" (223 : Nat) ({ cls := "MarshBells", name := "idle", desc := "()I" } : Jvm.MethodName)) ∈ lw_tbl := tk_3 (List.mem_of_getElem? (i := 228) rfl)
theorem tw_711 : (Jvm.Cond.code ({ cls := "MarshBells", name := "idle", desc := "()I" } : Jvm.MethodName) prog_1_method_34_code (1 : Nat) (Option.some Jvm.ClassFile.FieldType.int)) ∈ lw_tbl := tk_3 (List.mem_of_getElem? (i := 231) rfl)
theorem tw_709 : (Jvm.Cond.instanceMethod ({ cls := "MarshBells", name := "idle", desc := "()I" } : Jvm.MethodName)) ∈ lw_tbl := tk_3 (List.mem_of_getElem? (i := 229) rfl)
theorem tw_710 : (Jvm.Cond.selects "MarshBells" ({ cls := "MarshBells", name := "idle", desc := "()I" } : Jvm.MethodName) ({ cls := "MarshBells", name := "idle", desc := "()I" } : Jvm.MethodName)) ∈ lw_tbl := tk_3 (List.mem_of_getElem? (i := 230) rfl)
theorem li_L_223 : kLV RL 223 RX11 yX11_idle cX11_idle 1 (some .int) 0 := ⟨tw_708, tw_709, tw_710, tw_711, tw_1, by decide +kernel⟩
theorem dL_law_1969 : decode cL_law 1969 = .ok (.invokevirtual 223, 3) := by decide +kernel
theorem dL_law_1972 : decode cL_law 1972 = .ok (.aload_n 2, 1) := by decide +kernel
theorem tw_2070 : (Jvm.Cond.methodLink "MarshBellsLaw" (226 : Nat) ({ cls := "MarshBellsModel", name := "idle", desc := "()I" } : Jvm.MethodName)) ∈ lw_tbl := tk_9 (List.mem_of_getElem? (i := 150) rfl)
theorem tw_2073 : (Jvm.Cond.code ({ cls := "MarshBellsModel", name := "idle", desc := "()I" } : Jvm.MethodName) prog_14_method_100_code (6 : Nat) (Option.some Jvm.ClassFile.FieldType.int)) ∈ lw_tbl := tk_9 (List.mem_of_getElem? (i := 153) rfl)
theorem tw_2071 : (Jvm.Cond.instanceMethod ({ cls := "MarshBellsModel", name := "idle", desc := "()I" } : Jvm.MethodName)) ∈ lw_tbl := tk_9 (List.mem_of_getElem? (i := 151) rfl)
theorem tw_2072 : (Jvm.Cond.selects "MarshBellsModel" ({ cls := "MarshBellsModel", name := "idle", desc := "()I" } : Jvm.MethodName) ({ cls := "MarshBellsModel", name := "idle", desc := "()I" } : Jvm.MethodName)) ∈ lw_tbl := tk_9 (List.mem_of_getElem? (i := 152) rfl)
theorem li_L_226 : kLV RL 226 RX12 yX12_idle cX12_idle 6 (some .int) 0 := ⟨tw_2070, tw_2071, tw_2072, tw_2073, tw_13, by decide +kernel⟩
theorem dL_law_1973 : decode cL_law 1973 = .ok (.invokevirtual 226, 3) := by decide +kernel
theorem dL_law_1976 : decode cL_law 1976 = .ok (.if_icmp .eq 289, 3) := by decide +kernel
theorem dL_law_1981 : decode cL_law 1981 = .ok (.aload_n 1, 1) := by decide +kernel
theorem dL_law_1982 : decode cL_law 1982 = .ok (.aload_n 0, 1) := by decide +kernel
theorem dL_law_1983 : decode cL_law 1983 = .ok (.iload 4, 2) := by decide +kernel
theorem dL_law_1985 : decode cL_law 1985 = .ok (.iconst 1, 1) := by decide +kernel
theorem dL_law_1986 : decode cL_law 1986 = .ok (.iadd, 1) := by decide +kernel
theorem dL_law_1987 : decode cL_law 1987 = .ok (.iaload, 1) := by decide +kernel
theorem dL_law_1988 : decode cL_law 1988 = .ok (.aload_n 0, 1) := by decide +kernel
theorem dL_law_1989 : decode cL_law 1989 = .ok (.iload 4, 2) := by decide +kernel
theorem dL_law_1991 : decode cL_law 1991 = .ok (.iconst 2, 1) := by decide +kernel
theorem dL_law_1992 : decode cL_law 1992 = .ok (.iadd, 1) := by decide +kernel
theorem dL_law_1993 : decode cL_law 1993 = .ok (.iaload, 1) := by decide +kernel
theorem dL_law_1994 : decode cL_law 1994 = .ok (.aload_n 3, 1) := by decide +kernel
theorem tw_1369 : (Jvm.Cond.methodLink "MarshBellsLaw" (227 : Nat) ({ cls := "MarshBellsLaw", name := "shift", desc := "(LMarshBells;II[J)I" } : Jvm.MethodName)) ∈ lw_tbl := tk_6 (List.mem_of_getElem? (i := 169) rfl)
theorem tw_1371 : (Jvm.Cond.codeWith ({ cls := "MarshBellsLaw", name := "shift", desc := "(LMarshBells;II[J)I" } : Jvm.MethodName) method_27_code (5 : Nat) (Option.some Jvm.ClassFile.FieldType.int) [((0 : Nat), (10 : Nat), (13 : Nat), (18 : Nat))]) ∈ lw_tbl := tk_6 (List.mem_of_getElem? (i := 171) rfl)
theorem tw_1370 : (Jvm.Cond.static ({ cls := "MarshBellsLaw", name := "shift", desc := "(LMarshBells;II[J)I" } : Jvm.MethodName)) ∈ lw_tbl := tk_6 (List.mem_of_getElem? (i := 170) rfl)
theorem li_L_227 : kLH RL 227 yL_shift cL_shift 5 (some .int) [(0, 10, 13, 18)] 4 := ⟨tw_1369, tw_1370, tw_1371, tw_0, by decide +kernel⟩
theorem dL_law_1995 : decode cL_law 1995 = .ok (.invokestatic 227, 3) := by decide +kernel
theorem dL_law_1998 : decode cL_law 1998 = .ok (.istore 5, 2) := by decide +kernel
theorem dL_law_2000 : decode cL_law 2000 = .ok (.aload_n 2, 1) := by decide +kernel
theorem dL_law_2001 : decode cL_law 2001 = .ok (.aload_n 0, 1) := by decide +kernel
theorem dL_law_2002 : decode cL_law 2002 = .ok (.iload 4, 2) := by decide +kernel
theorem dL_law_2004 : decode cL_law 2004 = .ok (.iconst 1, 1) := by decide +kernel
theorem dL_law_2005 : decode cL_law 2005 = .ok (.iadd, 1) := by decide +kernel
theorem dL_law_2006 : decode cL_law 2006 = .ok (.iaload, 1) := by decide +kernel
theorem dL_law_2007 : decode cL_law 2007 = .ok (.aload_n 0, 1) := by decide +kernel
theorem dL_law_2008 : decode cL_law 2008 = .ok (.iload 4, 2) := by decide +kernel
theorem dL_law_2010 : decode cL_law 2010 = .ok (.iconst 2, 1) := by decide +kernel
theorem dL_law_2011 : decode cL_law 2011 = .ok (.iadd, 1) := by decide +kernel
theorem dL_law_2012 : decode cL_law 2012 = .ok (.iaload, 1) := by decide +kernel
theorem tw_2026 : (Jvm.Cond.methodLink "MarshBellsLaw" (229 : Nat) ({ cls := "MarshBellsModel", name := "shift", desc := "(II)I" } : Jvm.MethodName)) ∈ lw_tbl := tk_9 (List.mem_of_getElem? (i := 106) rfl)
theorem tw_2029 : (Jvm.Cond.code ({ cls := "MarshBellsModel", name := "shift", desc := "(II)I" } : Jvm.MethodName) prog_14_method_89_code (10 : Nat) (Option.some Jvm.ClassFile.FieldType.int)) ∈ lw_tbl := tk_9 (List.mem_of_getElem? (i := 109) rfl)
theorem tw_2027 : (Jvm.Cond.instanceMethod ({ cls := "MarshBellsModel", name := "shift", desc := "(II)I" } : Jvm.MethodName)) ∈ lw_tbl := tk_9 (List.mem_of_getElem? (i := 107) rfl)
theorem tw_2028 : (Jvm.Cond.selects "MarshBellsModel" ({ cls := "MarshBellsModel", name := "shift", desc := "(II)I" } : Jvm.MethodName) ({ cls := "MarshBellsModel", name := "shift", desc := "(II)I" } : Jvm.MethodName)) ∈ lw_tbl := tk_9 (List.mem_of_getElem? (i := 108) rfl)
theorem li_L_229 : kLV RL 229 RX12 yX12_shift cX12_shift 10 (some .int) 2 := ⟨tw_2026, tw_2027, tw_2028, tw_2029, tw_13, by decide +kernel⟩
theorem dL_law_2013 : decode cL_law 2013 = .ok (.invokevirtual 229, 3) := by decide +kernel
theorem dL_law_2016 : decode cL_law 2016 = .ok (.istore 6, 2) := by decide +kernel
theorem dL_law_2018 : decode cL_law 2018 = .ok (.aload_n 2, 1) := by decide +kernel
theorem dL_law_2019 : decode cL_law 2019 = .ok (.invokevirtual 118, 3) := by decide +kernel
theorem dL_law_2022 : decode cL_law 2022 = .ok (.iload 5, 2) := by decide +kernel
theorem dL_law_2024 : decode cL_law 2024 = .ok (.if_icmp .eq 5, 3) := by decide +kernel
theorem dL_law_2029 : decode cL_law 2029 = .ok (.iload 5, 2) := by decide +kernel
theorem dL_law_2031 : decode cL_law 2031 = .ok (.ifCond .ne 15, 3) := by decide +kernel
theorem dL_law_2046 : decode cL_law 2046 = .ok (.goto 219, 3) := by decide +kernel
theorem dL_law_2049 : decode cL_law 2049 = .ok (.aload_n 1, 1) := by decide +kernel
theorem dL_law_2050 : decode cL_law 2050 = .ok (.aload_n 0, 1) := by decide +kernel
theorem dL_law_2051 : decode cL_law 2051 = .ok (.iload 4, 2) := by decide +kernel
theorem dL_law_2053 : decode cL_law 2053 = .ok (.iconst 1, 1) := by decide +kernel
theorem dL_law_2054 : decode cL_law 2054 = .ok (.iadd, 1) := by decide +kernel
theorem dL_law_2055 : decode cL_law 2055 = .ok (.iaload, 1) := by decide +kernel
theorem dL_law_2056 : decode cL_law 2056 = .ok (.aload_n 0, 1) := by decide +kernel
theorem dL_law_2057 : decode cL_law 2057 = .ok (.iload 4, 2) := by decide +kernel
theorem dL_law_2059 : decode cL_law 2059 = .ok (.iconst 2, 1) := by decide +kernel
theorem dL_law_2060 : decode cL_law 2060 = .ok (.iadd, 1) := by decide +kernel
theorem dL_law_2061 : decode cL_law 2061 = .ok (.iaload, 1) := by decide +kernel
theorem dL_law_2062 : decode cL_law 2062 = .ok (.aload_n 3, 1) := by decide +kernel
theorem tw_1380 : (Jvm.Cond.methodLink "MarshBellsLaw" (230 : Nat) ({ cls := "MarshBellsLaw", name := "harm", desc := "(LMarshBells;II[J)I" } : Jvm.MethodName)) ∈ lw_tbl := tk_6 (List.mem_of_getElem? (i := 180) rfl)
theorem tw_1382 : (Jvm.Cond.codeWith ({ cls := "MarshBellsLaw", name := "harm", desc := "(LMarshBells;II[J)I" } : Jvm.MethodName) method_28_code (5 : Nat) (Option.some Jvm.ClassFile.FieldType.int) [((0 : Nat), (10 : Nat), (13 : Nat), (18 : Nat))]) ∈ lw_tbl := tk_6 (List.mem_of_getElem? (i := 182) rfl)
theorem tw_1381 : (Jvm.Cond.static ({ cls := "MarshBellsLaw", name := "harm", desc := "(LMarshBells;II[J)I" } : Jvm.MethodName)) ∈ lw_tbl := tk_6 (List.mem_of_getElem? (i := 181) rfl)
theorem li_L_230 : kLH RL 230 yL_harm cL_harm 5 (some .int) [(0, 10, 13, 18)] 4 := ⟨tw_1380, tw_1381, tw_1382, tw_0, by decide +kernel⟩
theorem dL_law_2063 : decode cL_law 2063 = .ok (.invokestatic 230, 3) := by decide +kernel
theorem dL_law_2066 : decode cL_law 2066 = .ok (.istore 5, 2) := by decide +kernel
theorem dL_law_2068 : decode cL_law 2068 = .ok (.aload_n 2, 1) := by decide +kernel
theorem dL_law_2069 : decode cL_law 2069 = .ok (.aload_n 0, 1) := by decide +kernel
theorem dL_law_2070 : decode cL_law 2070 = .ok (.iload 4, 2) := by decide +kernel
theorem dL_law_2072 : decode cL_law 2072 = .ok (.iconst 1, 1) := by decide +kernel
theorem dL_law_2073 : decode cL_law 2073 = .ok (.iadd, 1) := by decide +kernel
theorem dL_law_2074 : decode cL_law 2074 = .ok (.iaload, 1) := by decide +kernel
theorem dL_law_2075 : decode cL_law 2075 = .ok (.aload_n 0, 1) := by decide +kernel
theorem dL_law_2076 : decode cL_law 2076 = .ok (.iload 4, 2) := by decide +kernel
theorem dL_law_2078 : decode cL_law 2078 = .ok (.iconst 2, 1) := by decide +kernel
theorem dL_law_2079 : decode cL_law 2079 = .ok (.iadd, 1) := by decide +kernel
theorem dL_law_2080 : decode cL_law 2080 = .ok (.iaload, 1) := by decide +kernel
theorem tw_2014 : (Jvm.Cond.methodLink "MarshBellsLaw" (232 : Nat) ({ cls := "MarshBellsModel", name := "harm", desc := "(II)I" } : Jvm.MethodName)) ∈ lw_tbl := tk_9 (List.mem_of_getElem? (i := 94) rfl)
theorem tw_2017 : (Jvm.Cond.code ({ cls := "MarshBellsModel", name := "harm", desc := "(II)I" } : Jvm.MethodName) prog_14_method_86_code (5 : Nat) (Option.some Jvm.ClassFile.FieldType.int)) ∈ lw_tbl := tk_9 (List.mem_of_getElem? (i := 97) rfl)
theorem tw_2015 : (Jvm.Cond.instanceMethod ({ cls := "MarshBellsModel", name := "harm", desc := "(II)I" } : Jvm.MethodName)) ∈ lw_tbl := tk_9 (List.mem_of_getElem? (i := 95) rfl)
theorem tw_2016 : (Jvm.Cond.selects "MarshBellsModel" ({ cls := "MarshBellsModel", name := "harm", desc := "(II)I" } : Jvm.MethodName) ({ cls := "MarshBellsModel", name := "harm", desc := "(II)I" } : Jvm.MethodName)) ∈ lw_tbl := tk_9 (List.mem_of_getElem? (i := 96) rfl)
theorem li_L_232 : kLV RL 232 RX12 yX12_harm cX12_harm 5 (some .int) 2 := ⟨tw_2014, tw_2015, tw_2016, tw_2017, tw_13, by decide +kernel⟩
theorem dL_law_2081 : decode cL_law 2081 = .ok (.invokevirtual 232, 3) := by decide +kernel
theorem dL_law_2084 : decode cL_law 2084 = .ok (.istore 6, 2) := by decide +kernel
theorem dL_law_2086 : decode cL_law 2086 = .ok (.aload_n 2, 1) := by decide +kernel
theorem dL_law_2087 : decode cL_law 2087 = .ok (.invokevirtual 118, 3) := by decide +kernel
theorem dL_law_2090 : decode cL_law 2090 = .ok (.iload 5, 2) := by decide +kernel
theorem dL_law_2092 : decode cL_law 2092 = .ok (.if_icmp .eq 5, 3) := by decide +kernel
theorem dL_law_2097 : decode cL_law 2097 = .ok (.iload 5, 2) := by decide +kernel
theorem dL_law_2099 : decode cL_law 2099 = .ok (.ifCond .ne 15, 3) := by decide +kernel
theorem dL_law_2114 : decode cL_law 2114 = .ok (.goto 151, 3) := by decide +kernel
theorem dL_law_2117 : decode cL_law 2117 = .ok (.aload_n 1, 1) := by decide +kernel
theorem dL_law_2118 : decode cL_law 2118 = .ok (.aload_n 0, 1) := by decide +kernel
theorem dL_law_2119 : decode cL_law 2119 = .ok (.iload 4, 2) := by decide +kernel
theorem dL_law_2121 : decode cL_law 2121 = .ok (.iconst 1, 1) := by decide +kernel
theorem dL_law_2122 : decode cL_law 2122 = .ok (.iadd, 1) := by decide +kernel
theorem dL_law_2123 : decode cL_law 2123 = .ok (.iaload, 1) := by decide +kernel
theorem dL_law_2124 : decode cL_law 2124 = .ok (.aload_n 3, 1) := by decide +kernel
theorem tw_1391 : (Jvm.Cond.methodLink "MarshBellsLaw" (233 : Nat) ({ cls := "MarshBellsLaw", name := "pair", desc := "(LMarshBells;I[J)I" } : Jvm.MethodName)) ∈ lw_tbl := tk_6 (List.mem_of_getElem? (i := 191) rfl)
theorem tw_1393 : (Jvm.Cond.codeWith ({ cls := "MarshBellsLaw", name := "pair", desc := "(LMarshBells;I[J)I" } : Jvm.MethodName) method_29_code (4 : Nat) (Option.some Jvm.ClassFile.FieldType.int) [((0 : Nat), (9 : Nat), (12 : Nat), (18 : Nat))]) ∈ lw_tbl := tk_6 (List.mem_of_getElem? (i := 193) rfl)
theorem tw_1392 : (Jvm.Cond.static ({ cls := "MarshBellsLaw", name := "pair", desc := "(LMarshBells;I[J)I" } : Jvm.MethodName)) ∈ lw_tbl := tk_6 (List.mem_of_getElem? (i := 192) rfl)
theorem li_L_233 : kLH RL 233 yL_pair cL_pair 4 (some .int) [(0, 9, 12, 18)] 3 := ⟨tw_1391, tw_1392, tw_1393, tw_0, by decide +kernel⟩
theorem dL_law_2125 : decode cL_law 2125 = .ok (.invokestatic 233, 3) := by decide +kernel
theorem dL_law_2128 : decode cL_law 2128 = .ok (.istore 5, 2) := by decide +kernel
theorem dL_law_2130 : decode cL_law 2130 = .ok (.aload_n 2, 1) := by decide +kernel
theorem dL_law_2131 : decode cL_law 2131 = .ok (.aload_n 0, 1) := by decide +kernel
theorem dL_law_2132 : decode cL_law 2132 = .ok (.iload 4, 2) := by decide +kernel
theorem dL_law_2134 : decode cL_law 2134 = .ok (.iconst 1, 1) := by decide +kernel
theorem dL_law_2135 : decode cL_law 2135 = .ok (.iadd, 1) := by decide +kernel
theorem dL_law_2136 : decode cL_law 2136 = .ok (.iaload, 1) := by decide +kernel
theorem tw_2018 : (Jvm.Cond.methodLink "MarshBellsLaw" (235 : Nat) ({ cls := "MarshBellsModel", name := "pair", desc := "(I)I" } : Jvm.MethodName)) ∈ lw_tbl := tk_9 (List.mem_of_getElem? (i := 98) rfl)
theorem tw_2021 : (Jvm.Cond.code ({ cls := "MarshBellsModel", name := "pair", desc := "(I)I" } : Jvm.MethodName) prog_14_method_87_code (7 : Nat) (Option.some Jvm.ClassFile.FieldType.int)) ∈ lw_tbl := tk_9 (List.mem_of_getElem? (i := 101) rfl)
theorem tw_2019 : (Jvm.Cond.instanceMethod ({ cls := "MarshBellsModel", name := "pair", desc := "(I)I" } : Jvm.MethodName)) ∈ lw_tbl := tk_9 (List.mem_of_getElem? (i := 99) rfl)
theorem tw_2020 : (Jvm.Cond.selects "MarshBellsModel" ({ cls := "MarshBellsModel", name := "pair", desc := "(I)I" } : Jvm.MethodName) ({ cls := "MarshBellsModel", name := "pair", desc := "(I)I" } : Jvm.MethodName)) ∈ lw_tbl := tk_9 (List.mem_of_getElem? (i := 100) rfl)
theorem li_L_235 : kLV RL 235 RX12 yX12_pair cX12_pair 7 (some .int) 1 := ⟨tw_2018, tw_2019, tw_2020, tw_2021, tw_13, by decide +kernel⟩
theorem dL_law_2137 : decode cL_law 2137 = .ok (.invokevirtual 235, 3) := by decide +kernel
theorem dL_law_2140 : decode cL_law 2140 = .ok (.istore 6, 2) := by decide +kernel
theorem dL_law_2142 : decode cL_law 2142 = .ok (.aload_n 2, 1) := by decide +kernel
theorem dL_law_2143 : decode cL_law 2143 = .ok (.invokevirtual 118, 3) := by decide +kernel
theorem dL_law_2146 : decode cL_law 2146 = .ok (.iload 5, 2) := by decide +kernel
theorem dL_law_2148 : decode cL_law 2148 = .ok (.if_icmp .eq 5, 3) := by decide +kernel
theorem dL_law_2153 : decode cL_law 2153 = .ok (.iload 5, 2) := by decide +kernel
theorem dL_law_2155 : decode cL_law 2155 = .ok (.ifCond .ne 15, 3) := by decide +kernel
theorem dL_law_2170 : decode cL_law 2170 = .ok (.goto 95, 3) := by decide +kernel
theorem dL_law_2151 : decode cL_law 2151 = .ok (.iconst 0, 1) := by decide +kernel
theorem dL_law_2158 : decode cL_law 2158 = .ok (.aload_n 3, 1) := by decide +kernel
theorem dL_law_2159 : decode cL_law 2159 = .ok (.iconst 0, 1) := by decide +kernel
theorem dL_law_2160 : decode cL_law 2160 = .ok (.laload, 1) := by decide +kernel
theorem dL_law_2161 : decode cL_law 2161 = .ok (.iload 6, 2) := by decide +kernel
theorem dL_law_2163 : decode cL_law 2163 = .ok (.i2l, 1) := by decide +kernel
theorem dL_law_2164 : decode cL_law 2164 = .ok (.lcmp, 1) := by decide +kernel
theorem dL_law_2165 : decode cL_law 2165 = .ok (.ifCond .eq 5, 3) := by decide +kernel
theorem dL_law_2173 : decode cL_law 2173 = .ok (.aload_n 1, 1) := by decide +kernel
theorem dL_law_2174 : decode cL_law 2174 = .ok (.aload_n 0, 1) := by decide +kernel
theorem dL_law_2175 : decode cL_law 2175 = .ok (.iload 4, 2) := by decide +kernel
theorem dL_law_2177 : decode cL_law 2177 = .ok (.iconst 1, 1) := by decide +kernel
theorem dL_law_2178 : decode cL_law 2178 = .ok (.iadd, 1) := by decide +kernel
theorem dL_law_2179 : decode cL_law 2179 = .ok (.iaload, 1) := by decide +kernel
theorem dL_law_2180 : decode cL_law 2180 = .ok (.aload_n 0, 1) := by decide +kernel
theorem dL_law_2181 : decode cL_law 2181 = .ok (.iload 4, 2) := by decide +kernel
theorem dL_law_2183 : decode cL_law 2183 = .ok (.iconst 2, 1) := by decide +kernel
theorem dL_law_2184 : decode cL_law 2184 = .ok (.iadd, 1) := by decide +kernel
theorem dL_law_2185 : decode cL_law 2185 = .ok (.iaload, 1) := by decide +kernel
theorem dL_law_2186 : decode cL_law 2186 = .ok (.aload_n 3, 1) := by decide +kernel
theorem tw_1402 : (Jvm.Cond.methodLink "MarshBellsLaw" (236 : Nat) ({ cls := "MarshBellsLaw", name := "pause", desc := "(LMarshBells;II[J)I" } : Jvm.MethodName)) ∈ lw_tbl := tk_6 (List.mem_of_getElem? (i := 202) rfl)
theorem tw_1404 : (Jvm.Cond.codeWith ({ cls := "MarshBellsLaw", name := "pause", desc := "(LMarshBells;II[J)I" } : Jvm.MethodName) method_30_code (5 : Nat) (Option.some Jvm.ClassFile.FieldType.int) [((0 : Nat), (10 : Nat), (13 : Nat), (18 : Nat)), ((0 : Nat), (10 : Nat), (17 : Nat), (13 : Nat))]) ∈ lw_tbl := tk_6 (List.mem_of_getElem? (i := 204) rfl)
theorem tw_1403 : (Jvm.Cond.static ({ cls := "MarshBellsLaw", name := "pause", desc := "(LMarshBells;II[J)I" } : Jvm.MethodName)) ∈ lw_tbl := tk_6 (List.mem_of_getElem? (i := 203) rfl)
theorem li_L_236 : kLH RL 236 yL_pause cL_pause 5 (some .int) [(0, 10, 13, 18), (0, 10, 17, 13)] 4 := ⟨tw_1402, tw_1403, tw_1404, tw_0, by decide +kernel⟩
theorem dL_law_2187 : decode cL_law 2187 = .ok (.invokestatic 236, 3) := by decide +kernel
theorem dL_law_2190 : decode cL_law 2190 = .ok (.istore 5, 2) := by decide +kernel
theorem dL_law_2192 : decode cL_law 2192 = .ok (.aload_n 2, 1) := by decide +kernel
theorem dL_law_2193 : decode cL_law 2193 = .ok (.aload_n 0, 1) := by decide +kernel
theorem dL_law_2194 : decode cL_law 2194 = .ok (.iload 4, 2) := by decide +kernel
theorem dL_law_2196 : decode cL_law 2196 = .ok (.iconst 1, 1) := by decide +kernel
theorem dL_law_2197 : decode cL_law 2197 = .ok (.iadd, 1) := by decide +kernel
theorem dL_law_2198 : decode cL_law 2198 = .ok (.iaload, 1) := by decide +kernel
theorem dL_law_2199 : decode cL_law 2199 = .ok (.aload_n 0, 1) := by decide +kernel
theorem dL_law_2200 : decode cL_law 2200 = .ok (.iload 4, 2) := by decide +kernel
theorem dL_law_2202 : decode cL_law 2202 = .ok (.iconst 2, 1) := by decide +kernel
theorem dL_law_2203 : decode cL_law 2203 = .ok (.iadd, 1) := by decide +kernel
theorem dL_law_2204 : decode cL_law 2204 = .ok (.iaload, 1) := by decide +kernel
theorem tw_2022 : (Jvm.Cond.methodLink "MarshBellsLaw" (238 : Nat) ({ cls := "MarshBellsModel", name := "pause", desc := "(II)I" } : Jvm.MethodName)) ∈ lw_tbl := tk_9 (List.mem_of_getElem? (i := 102) rfl)
theorem tw_2025 : (Jvm.Cond.code ({ cls := "MarshBellsModel", name := "pause", desc := "(II)I" } : Jvm.MethodName) prog_14_method_88_code (7 : Nat) (Option.some Jvm.ClassFile.FieldType.int)) ∈ lw_tbl := tk_9 (List.mem_of_getElem? (i := 105) rfl)
theorem tw_2023 : (Jvm.Cond.instanceMethod ({ cls := "MarshBellsModel", name := "pause", desc := "(II)I" } : Jvm.MethodName)) ∈ lw_tbl := tk_9 (List.mem_of_getElem? (i := 103) rfl)
theorem tw_2024 : (Jvm.Cond.selects "MarshBellsModel" ({ cls := "MarshBellsModel", name := "pause", desc := "(II)I" } : Jvm.MethodName) ({ cls := "MarshBellsModel", name := "pause", desc := "(II)I" } : Jvm.MethodName)) ∈ lw_tbl := tk_9 (List.mem_of_getElem? (i := 104) rfl)
theorem li_L_238 : kLV RL 238 RX12 yX12_pause cX12_pause 7 (some .int) 2 := ⟨tw_2022, tw_2023, tw_2024, tw_2025, tw_13, by decide +kernel⟩
theorem dL_law_2205 : decode cL_law 2205 = .ok (.invokevirtual 238, 3) := by decide +kernel
theorem dL_law_2208 : decode cL_law 2208 = .ok (.istore 6, 2) := by decide +kernel
theorem dL_law_2210 : decode cL_law 2210 = .ok (.aload_n 2, 1) := by decide +kernel
theorem dL_law_2211 : decode cL_law 2211 = .ok (.invokevirtual 118, 3) := by decide +kernel
theorem dL_law_2214 : decode cL_law 2214 = .ok (.iload 5, 2) := by decide +kernel
theorem dL_law_2216 : decode cL_law 2216 = .ok (.if_icmp .eq 5, 3) := by decide +kernel
theorem dL_law_2221 : decode cL_law 2221 = .ok (.iload 5, 2) := by decide +kernel
theorem dL_law_2223 : decode cL_law 2223 = .ok (.ifCond .ne 15, 3) := by decide +kernel
theorem dL_law_2238 : decode cL_law 2238 = .ok (.goto 27, 3) := by decide +kernel
theorem dL_law_2219 : decode cL_law 2219 = .ok (.iconst 0, 1) := by decide +kernel
theorem dL_law_2226 : decode cL_law 2226 = .ok (.aload_n 3, 1) := by decide +kernel
theorem dL_law_2227 : decode cL_law 2227 = .ok (.iconst 0, 1) := by decide +kernel
theorem dL_law_2228 : decode cL_law 2228 = .ok (.laload, 1) := by decide +kernel
theorem dL_law_2229 : decode cL_law 2229 = .ok (.iload 6, 2) := by decide +kernel
theorem dL_law_2231 : decode cL_law 2231 = .ok (.i2l, 1) := by decide +kernel
theorem dL_law_2232 : decode cL_law 2232 = .ok (.lcmp, 1) := by decide +kernel
theorem dL_law_2233 : decode cL_law 2233 = .ok (.ifCond .eq 5, 3) := by decide +kernel
theorem dL_law_2241 : decode cL_law 2241 = .ok (.aload_n 1, 1) := by decide +kernel
theorem tw_717 : (Jvm.Cond.methodLink "MarshBellsLaw" (239 : Nat) ({ cls := "MarshBells", name := "image", desc := "()V" } : Jvm.MethodName)) ∈ lw_tbl := tk_3 (List.mem_of_getElem? (i := 237) rfl)
theorem tw_720 : (Jvm.Cond.code ({ cls := "MarshBells", name := "image", desc := "()V" } : Jvm.MethodName) prog_1_method_39_code (1 : Nat) (Option.none : Option Jvm.ClassFile.FieldType)) ∈ lw_tbl := tk_4 (List.mem_of_getElem? (i := 0) rfl)
theorem tw_718 : (Jvm.Cond.instanceMethod ({ cls := "MarshBells", name := "image", desc := "()V" } : Jvm.MethodName)) ∈ lw_tbl := tk_3 (List.mem_of_getElem? (i := 238) rfl)
theorem tw_719 : (Jvm.Cond.selects "MarshBells" ({ cls := "MarshBells", name := "image", desc := "()V" } : Jvm.MethodName) ({ cls := "MarshBells", name := "image", desc := "()V" } : Jvm.MethodName)) ∈ lw_tbl := tk_3 (List.mem_of_getElem? (i := 239) rfl)
theorem li_L_239 : kLV RL 239 RX11 yX11_image cX11_image 1 none 0 := ⟨tw_717, tw_718, tw_719, tw_720, tw_1, by decide +kernel⟩
theorem dL_law_2242 : decode cL_law 2242 = .ok (.invokevirtual 239, 3) := by decide +kernel
theorem dL_law_2245 : decode cL_law 2245 = .ok (.aload_n 2, 1) := by decide +kernel
theorem tw_2083 : (Jvm.Cond.methodLink "MarshBellsLaw" (242 : Nat) ({ cls := "MarshBellsModel", name := "image", desc := "()V" } : Jvm.MethodName)) ∈ lw_tbl := tk_9 (List.mem_of_getElem? (i := 163) rfl)
theorem tw_2086 : (Jvm.Cond.code ({ cls := "MarshBellsModel", name := "image", desc := "()V" } : Jvm.MethodName) prog_14_method_103_code (1 : Nat) (Option.none : Option Jvm.ClassFile.FieldType)) ∈ lw_tbl := tk_9 (List.mem_of_getElem? (i := 166) rfl)
theorem tw_2084 : (Jvm.Cond.instanceMethod ({ cls := "MarshBellsModel", name := "image", desc := "()V" } : Jvm.MethodName)) ∈ lw_tbl := tk_9 (List.mem_of_getElem? (i := 164) rfl)
theorem tw_2085 : (Jvm.Cond.selects "MarshBellsModel" ({ cls := "MarshBellsModel", name := "image", desc := "()V" } : Jvm.MethodName) ({ cls := "MarshBellsModel", name := "image", desc := "()V" } : Jvm.MethodName)) ∈ lw_tbl := tk_9 (List.mem_of_getElem? (i := 165) rfl)
theorem li_L_242 : kLV RL 242 RX12 yX12_image cX12_image 1 none 0 := ⟨tw_2083, tw_2084, tw_2085, tw_2086, tw_13, by decide +kernel⟩
theorem dL_law_2246 : decode cL_law 2246 = .ok (.invokevirtual 242, 3) := by decide +kernel
theorem dL_law_2249 : decode cL_law 2249 = .ok (.goto 16, 3) := by decide +kernel
theorem dL_law_2252 : decode cL_law 2252 = .ok (.aload_n 1, 1) := by decide +kernel
theorem tw_725 : (Jvm.Cond.methodLink "MarshBellsLaw" (243 : Nat) ({ cls := "MarshBells", name := "restore", desc := "()Z" } : Jvm.MethodName)) ∈ lw_tbl := tk_4 (List.mem_of_getElem? (i := 5) rfl)
theorem tw_728 : (Jvm.Cond.code ({ cls := "MarshBells", name := "restore", desc := "()Z" } : Jvm.MethodName) prog_1_method_40_code (1 : Nat) (Option.some Jvm.ClassFile.FieldType.boolean)) ∈ lw_tbl := tk_4 (List.mem_of_getElem? (i := 8) rfl)
theorem tw_726 : (Jvm.Cond.instanceMethod ({ cls := "MarshBells", name := "restore", desc := "()Z" } : Jvm.MethodName)) ∈ lw_tbl := tk_4 (List.mem_of_getElem? (i := 6) rfl)
theorem tw_727 : (Jvm.Cond.selects "MarshBells" ({ cls := "MarshBells", name := "restore", desc := "()Z" } : Jvm.MethodName) ({ cls := "MarshBells", name := "restore", desc := "()Z" } : Jvm.MethodName)) ∈ lw_tbl := tk_4 (List.mem_of_getElem? (i := 7) rfl)
theorem li_L_243 : kLV RL 243 RX11 yX11_restore cX11_restore 1 (some .boolean) 0 := ⟨tw_725, tw_726, tw_727, tw_728, tw_1, by decide +kernel⟩
theorem dL_law_2253 : decode cL_law 2253 = .ok (.invokevirtual 243, 3) := by decide +kernel
theorem dL_law_2256 : decode cL_law 2256 = .ok (.aload_n 2, 1) := by decide +kernel
theorem tw_2087 : (Jvm.Cond.methodLink "MarshBellsLaw" (247 : Nat) ({ cls := "MarshBellsModel", name := "restore", desc := "()Z" } : Jvm.MethodName)) ∈ lw_tbl := tk_9 (List.mem_of_getElem? (i := 167) rfl)
theorem tw_2090 : (Jvm.Cond.code ({ cls := "MarshBellsModel", name := "restore", desc := "()Z" } : Jvm.MethodName) prog_14_method_104_code (1 : Nat) (Option.some Jvm.ClassFile.FieldType.boolean)) ∈ lw_tbl := tk_9 (List.mem_of_getElem? (i := 170) rfl)
theorem tw_2088 : (Jvm.Cond.instanceMethod ({ cls := "MarshBellsModel", name := "restore", desc := "()Z" } : Jvm.MethodName)) ∈ lw_tbl := tk_9 (List.mem_of_getElem? (i := 168) rfl)
theorem tw_2089 : (Jvm.Cond.selects "MarshBellsModel" ({ cls := "MarshBellsModel", name := "restore", desc := "()Z" } : Jvm.MethodName) ({ cls := "MarshBellsModel", name := "restore", desc := "()Z" } : Jvm.MethodName)) ∈ lw_tbl := tk_9 (List.mem_of_getElem? (i := 169) rfl)
theorem li_L_247 : kLV RL 247 RX12 yX12_restore cX12_restore 1 (some .boolean) 0 := ⟨tw_2087, tw_2088, tw_2089, tw_2090, tw_13, by decide +kernel⟩
theorem dL_law_2257 : decode cL_law 2257 = .ok (.invokevirtual 247, 3) := by decide +kernel
theorem dL_law_2260 : decode cL_law 2260 = .ok (.if_icmp .eq 5, 3) := by decide +kernel
set_option maxHeartbeats 4000000 in
set_option maxRecDepth 100000 in
theorem law_32 {p : Program} {e : Env} {s : State} {m : MethodId} {below : List Frame} {meth : Method} {c : Code} {l : Launch} (hst : l.stackTraces = false) {b : Nat} {xs : Nat → Int32} {G : kG} {A : Nat → Prop} (C0 : lw_At p s m meth c b 6 xs) (hA : A = fun q : Nat => s.heap.size ≤ q) (C : kC G p s m c cL_law 8 RL A) {v1 : Int32} (hv1 : xs 1 = v1) {v2 : Int32} (hv2 : xs 2 = v2) {v3 : Int32} (hv3 : xs 3 = v3) {v4 : Int32} (hv4 : xs 4 = v4) {v5 : Int32} (hv5 : xs 5 = v5) {x0 : Nat} {Fx0 : Nat → Value} {x31 : Nat} {x3 : Nat} {Fx3 : Nat → Value} {Fx31 : Nat → Value} {m0 : Nat} {Fm0 : Nat → Value} {aout : Nat} (e_x0_8 : Fx0 8 = .ref x31) (e_x3_2 : Fx3 2 = .int 0) (e_x31_7 : Fx31 7 = .ref x3) (e_m0_1 : Fm0 1 = .int 0) {H : Heap} {locs : List Loc} {ls : Array Slot} (hP : va_P G.1 vwCl [(x0, .inr (11, ofL 17 Fx0)), (x3, .inr (7, ofL 5 Fx3)), (x31, .inr (1, ofL 10 Fx31)), (m0, .inr (12, ofL 88 Fm0))] H) (hD : va_D A [(x0, .inr (11, ofL 17 Fx0)), (x3, .inr (7, ofL 5 Fx3)), (x31, .inr (1, ofL 10 Fx31)), (m0, .inr (12, ofL 88 Fm0))]) (hS : va_S A s.heap H locs) (hl : lv_has ls 8 [(0, .ref b), (1, .ref x0), (2, .ref m0), (3, .ref aout), (4, .int 0)]) :
    W p l e room_1 s m #[Value.ref b] below meth c H locs 1000 20000 (lw_Z below #[Value.ref b] s) (F0 m 1968 ls []) := by
  obtain ⟨hx, hb, hr, -, -, -, hX, hbl, hlocks, -⟩ := id C0
  have hbA : ¬ A b := by rw [hA]; exact Nat.not_le.mpr hbl
  refine lv_aload_n hx hb dL_law_1968 rfl (lv_at hl 1 rfl) ?_
  refine k_callVi (wr := [(m0, .inr (12, ofL 88 Fm0))]) (rest := []) li_L_223 C (c_X11_idle l G H.size x0 Fx0 x31 Fx31 x3 Fx3 e_x0_8 e_x31_7 e_x3_2) (kR rfl) hP hD hS [0, 2, 1] [3] rfl rfl rfl rfl (by decide) 0 11 rfl rfl rfl hl.1 rfl (Nat.le_of_ble_eq_true rfl) dL_law_1969 (fun rr2 uu3 H locs hw1 hP hD hS => ?_)
  obtain rfl : rr2 = 0 := hw1
  have hP : va_P G.1 vwCl [(m0, .inr (12, ofL 88 Fm0)), (x0, .inr (11, ofL 17 Fx0)), (x31, .inr (1, ofL 10 Fx31)), (x3, .inr (7, ofL 5 Fx3))] H := hP
  have hD : va_D A [(m0, .inr (12, ofL 88 Fm0)), (x0, .inr (11, ofL 17 Fx0)), (x31, .inr (1, ofL 10 Fx31)), (x3, .inr (7, ofL 5 Fx3))] := hD
  refine lv_aload_n hx hb dL_law_1972 rfl (lv_at hl 2 rfl) ?_
  refine k_callVi (wr := [(x0, .inr (11, ofL 17 Fx0)), (x31, .inr (1, ofL 10 Fx31)), (x3, .inr (7, ofL 5 Fx3))]) (rest := [.int 0]) li_L_226 C (c_X12_idle l G H.size m0 Fm0 e_m0_1) (kR rfl) hP hD hS [0] [1, 2, 3] rfl rfl rfl rfl (by decide) 0 12 rfl rfl rfl hl.1 rfl (Nat.le_of_ble_eq_true rfl) dL_law_1973 (fun rr5 uu6 H locs hw4 hP hD hS => ?_)
  obtain rfl : rr5 = 0 := hw4
  have hP : va_P G.1 vwCl [(x0, .inr (11, ofL 17 Fx0)), (x31, .inr (1, ofL 10 Fx31)), (x3, .inr (7, ofL 5 Fx3)), (m0, .inr (12, ofL 88 (updV Fm0 0 (.int 0))))] H := hP
  have hD : va_D A [(x0, .inr (11, ofL 17 Fx0)), (x31, .inr (1, ofL 10 Fx31)), (x3, .inr (7, ofL 5 Fx3)), (m0, .inr (12, ofL 88 (updV Fm0 0 (.int 0))))] := hD
  refine lv_icmp_eq (x := 0) (y := 0) (tgt := 2265) hx hb dL_law_1976 (by decide) (fun c_7 => ?_) (fun c_7 => ?_)
  rotate_left
  · exact absurd (by decide) c_7
  exact law_end hst C0 hA C hS (lv_sub hl [0, 4] rfl) (Nat.le_of_ble_eq_true rfl) (Nat.le_of_ble_eq_true rfl)
set_option maxHeartbeats 4000000 in
set_option maxRecDepth 100000 in
theorem law_33 {p : Program} {e : Env} {s : State} {m : MethodId} {below : List Frame} {meth : Method} {c : Code} {l : Launch} (hst : l.stackTraces = false) {b : Nat} {xs : Nat → Int32} {G : kG} {A : Nat → Prop} (C0 : lw_At p s m meth c b 6 xs) (hA : A = fun q : Nat => s.heap.size ≤ q) (C : kC G p s m c cL_law 8 RL A) {v1 : Int32} (hv1 : xs 1 = v1) {v2 : Int32} (hv2 : xs 2 = v2) {v3 : Int32} (hv3 : xs 3 = v3) {v4 : Int32} (hv4 : xs 4 = v4) {v5 : Int32} (hv5 : xs 5 = v5) {x0 : Nat} {Fx0 : Nat → Value} {x3 : Nat} {Fx3 : Nat → Value} {m0 : Nat} {Fm0 : Nat → Value} {aout : Nat} (e_x0_3 : Fx0 3 = .ref x3) (e_x3_2 : Fx3 2 = .int 0) (e_m0_1 : Fm0 1 = .int 0) {H : Heap} {locs : List Loc} {ls : Array Slot} (hP : va_P G.1 vwCl [(x0, .inr (11, ofL 17 Fx0)), (x3, .inr (7, ofL 5 Fx3)), (m0, .inr (12, ofL 88 Fm0)), (aout, .inl (G.2.2.2.2, 1, .inr (.inl (fun _ => 0))))] H) (hD : va_D A [(x0, .inr (11, ofL 17 Fx0)), (x3, .inr (7, ofL 5 Fx3)), (m0, .inr (12, ofL 88 Fm0)), (aout, .inl (G.2.2.2.2, 1, .inr (.inl (fun _ => 0))))]) (hS : va_S A s.heap H locs) (hl : lv_has ls 8 [(0, .ref b), (1, .ref x0), (2, .ref m0), (3, .ref aout), (4, .int 0)]) :
    W p l e room_1 s m #[Value.ref b] below meth c H locs 1000 20000 (lw_Z below #[Value.ref b] s) (F0 m 1981 ls []) := by
  obtain ⟨hx, hb, hr, -, -, -, hX, hbl, hlocks, -⟩ := id C0
  have hbA : ¬ A b := by rw [hA]; exact Nat.not_le.mpr hbl
  refine lv_aload_n hx hb dL_law_1981 rfl (lv_at hl 1 rfl) ?_
  refine lv_aload_n hx hb dL_law_1982 rfl (lv_at hl 0 rfl) ?_
  refine lv_iload hx hb dL_law_1983 (lv_at hl 4 rfl) ?_
  refine lv_iconst (v := 1) hx hb dL_law_1985 (by decide) ?_
  refine lv_iadd hx hb dL_law_1986 ?_
  refine k_eqi (y := 1) (by decide) ?_
  refine va_sld hx hb hX hbl hbA hS (k_in (by decide)) dL_law_1987 ?_
  refine k_eqi (y := v1) hv1 ?_
  refine lv_aload_n hx hb dL_law_1988 rfl (lv_at hl 0 rfl) ?_
  refine lv_iload hx hb dL_law_1989 (lv_at hl 4 rfl) ?_
  refine lv_iconst (v := 2) hx hb dL_law_1991 (by decide) ?_
  refine lv_iadd hx hb dL_law_1992 ?_
  refine k_eqi (y := 2) (by decide) ?_
  refine va_sld hx hb hX hbl hbA hS (k_in (by decide)) dL_law_1993 ?_
  refine k_eqi (y := v2) hv2 ?_
  refine lv_aload_n hx hb dL_law_1994 rfl (lv_at hl 3 rfl) ?_
  refine k_callHi (wr := [(m0, .inr (12, ofL 88 Fm0))]) (rest := []) li_L_227 C (c_L_shift l hst G H.size x0 v1 v2 aout Fx0 x3 Fx3 (fun _ => 0) e_x0_3 e_x3_2) (kR rfl) hP hD hS [0, 1, 3] [2] rfl rfl rfl rfl (by decide) rfl hl.1 rfl (Nat.le_of_ble_eq_true rfl) dL_law_1995 (fun rr2 uu3 H locs hw1 hP hD hS => ?_)
  rcases hw1 with ⟨rfl, rfl, c_4⟩ | ⟨rfl, rfl, c_5⟩
  ·
    have hP : va_P G.1 vwCl [(m0, .inr (12, ofL 88 Fm0)), (aout, .inl (G.2.2.2.2, 1, .inr (.inl ((fun _ => 0))))), (x0, .inr (11, ofL 17 Fx0)), (x3, .inr (7, ofL 5 Fx3))] H := hP
    have hD : va_D A [(m0, .inr (12, ofL 88 Fm0)), (aout, .inl (G.2.2.2.2, 1, .inr (.inl ((fun _ => 0))))), (x0, .inr (11, ofL 17 Fx0)), (x3, .inr (7, ofL 5 Fx3))] := hD
    refine lv_istore (lv' := [(5, .int 1), (0, .ref b), (1, .ref x0), (2, .ref m0), (3, .ref aout), (4, .int 0)]) hx hb dL_law_1998 hl (by decide) rfl (fun ls hl => ?_)
    refine lv_aload_n hx hb dL_law_2000 rfl (lv_at hl 3 rfl) ?_
    refine lv_aload_n hx hb dL_law_2001 rfl (lv_at hl 1 rfl) ?_
    refine lv_iload hx hb dL_law_2002 (lv_at hl 5 rfl) ?_
    refine lv_iconst (v := 1) hx hb dL_law_2004 (by decide) ?_
    refine lv_iadd hx hb dL_law_2005 ?_
    refine k_eqi (y := 1) (by decide) ?_
    refine va_sld hx hb hX hbl hbA hS (k_in (by decide)) dL_law_2006 ?_
    refine k_eqi (y := v1) hv1 ?_
    refine lv_aload_n hx hb dL_law_2007 rfl (lv_at hl 1 rfl) ?_
    refine lv_iload hx hb dL_law_2008 (lv_at hl 5 rfl) ?_
    refine lv_iconst (v := 2) hx hb dL_law_2010 (by decide) ?_
    refine lv_iadd hx hb dL_law_2011 ?_
    refine k_eqi (y := 2) (by decide) ?_
    refine va_sld hx hb hX hbl hbA hS (k_in (by decide)) dL_law_2012 ?_
    refine k_eqi (y := v2) hv2 ?_
    refine k_callVi (wr := [(aout, .inl (G.2.2.2.2, 1, .inr (.inl ((fun _ => 0))))), (x0, .inr (11, ofL 17 Fx0)), (x3, .inr (7, ofL 5 Fx3))]) (rest := []) li_L_229 C (c_X12_shift l G H.size m0 v1 v2 Fm0 e_m0_1) (kR rfl) hP hD hS [0] [1, 2, 3] rfl rfl rfl rfl (by decide) 0 12 rfl rfl rfl hl.1 rfl (Nat.le_of_ble_eq_true rfl) dL_law_2013 (fun rr7 uu8 H locs hw6 hP hD hS => ?_)
    rcases hw6 with ⟨rfl, rfl, c_9⟩ | ⟨rfl, rfl, c_10⟩
    ·
      have hP : va_P G.1 vwCl [(aout, .inl (G.2.2.2.2, 1, .inr (.inl ((fun _ => 0))))), (x0, .inr (11, ofL 17 Fx0)), (x3, .inr (7, ofL 5 Fx3)), (m0, .inr (12, ofL 88 (updV (updV Fm0 0 (.int 0)) 0 (.int 1))))] H := hP
      have hD : va_D A [(aout, .inl (G.2.2.2.2, 1, .inr (.inl ((fun _ => 0))))), (x0, .inr (11, ofL 17 Fx0)), (x3, .inr (7, ofL 5 Fx3)), (m0, .inr (12, ofL 88 (updV (updV Fm0 0 (.int 0)) 0 (.int 1))))] := hD
      refine lv_istore (lv' := [(6, .int 0), (5, .int 1), (0, .ref b), (1, .ref x0), (2, .ref m0), (3, .ref aout), (4, .int 0)]) hx hb dL_law_2016 hl (by decide) rfl (fun ls hl => ?_)
      refine lv_aload_n hx hb dL_law_2018 rfl (lv_at hl 4 rfl) ?_
      refine k_callVi (wr := [(aout, .inl (G.2.2.2.2, 1, .inr (.inl ((fun _ => 0))))), (x0, .inr (11, ofL 17 Fx0)), (x3, .inr (7, ofL 5 Fx3))]) (rest := []) li_L_118 C (c_X12_thrown l G H.size m0 (updV (updV Fm0 0 (.int 0)) 0 (.int 1)) 1 rfl) (kR rfl) hP hD hS [3] [0, 1, 2] rfl rfl rfl rfl (by decide) 0 12 rfl rfl rfl hl.1 rfl (Nat.le_of_ble_eq_true rfl) dL_law_2019 (fun rr12 uu13 H locs hw11 hP hD hS => ?_)
      obtain rfl : rr12 = 1 := hw11
      have hP : va_P G.1 vwCl [(aout, .inl (G.2.2.2.2, 1, .inr (.inl ((fun _ => 0))))), (x0, .inr (11, ofL 17 Fx0)), (x3, .inr (7, ofL 5 Fx3)), (m0, .inr (12, ofL 88 (updV (updV Fm0 0 (.int 0)) 0 (.int 1))))] H := hP
      have hD : va_D A [(aout, .inl (G.2.2.2.2, 1, .inr (.inl ((fun _ => 0))))), (x0, .inr (11, ofL 17 Fx0)), (x3, .inr (7, ofL 5 Fx3)), (m0, .inr (12, ofL 88 (updV (updV Fm0 0 (.int 0)) 0 (.int 1))))] := hD
      refine lv_iload hx hb dL_law_2022 (lv_at hl 1 rfl) ?_
      refine lv_icmp_eq (x := 1) (y := 1) (tgt := 2029) hx hb dL_law_2024 (by decide) (fun c_14 => ?_) (fun c_14 => ?_)
      rotate_left
      · exact absurd (by decide) c_14
      refine lv_iload hx hb dL_law_2029 (lv_at hl 1 rfl) ?_
      refine lv_if_ne (x := 1) (tgt := 2046) hx hb dL_law_2031 (by decide) (fun c_15 => ?_) (fun c_15 => ?_)
      rotate_left
      · exact absurd c_15 (by decide)
      refine lv_goto (tgt := 2265) hx hb dL_law_2046 (by decide) ?_
      exact law_end hst C0 hA C hS (lv_sub hl [2, 6] rfl) (Nat.le_of_ble_eq_true rfl) (Nat.le_of_ble_eq_true rfl)
    ·
      have hP : va_P G.1 vwCl [(aout, .inl (G.2.2.2.2, 1, .inr (.inl ((fun _ => 0))))), (x0, .inr (11, ofL 17 Fx0)), (x3, .inr (7, ofL 5 Fx3)), (m0, .inr (12, ofL 88 (updV (updV Fm0 0 (.int 0)) 0 (.int 1))))] H := hP
      have hD : va_D A [(aout, .inl (G.2.2.2.2, 1, .inr (.inl ((fun _ => 0))))), (x0, .inr (11, ofL 17 Fx0)), (x3, .inr (7, ofL 5 Fx3)), (m0, .inr (12, ofL 88 (updV (updV Fm0 0 (.int 0)) 0 (.int 1))))] := hD
      refine lv_istore (lv' := [(6, .int 0), (5, .int 1), (0, .ref b), (1, .ref x0), (2, .ref m0), (3, .ref aout), (4, .int 0)]) hx hb dL_law_2016 hl (by decide) rfl (fun ls hl => ?_)
      refine lv_aload_n hx hb dL_law_2018 rfl (lv_at hl 4 rfl) ?_
      refine k_callVi (wr := [(aout, .inl (G.2.2.2.2, 1, .inr (.inl ((fun _ => 0))))), (x0, .inr (11, ofL 17 Fx0)), (x3, .inr (7, ofL 5 Fx3))]) (rest := []) li_L_118 C (c_X12_thrown l G H.size m0 (updV (updV Fm0 0 (.int 0)) 0 (.int 1)) 1 rfl) (kR rfl) hP hD hS [3] [0, 1, 2] rfl rfl rfl rfl (by decide) 0 12 rfl rfl rfl hl.1 rfl (Nat.le_of_ble_eq_true rfl) dL_law_2019 (fun rr17 uu18 H locs hw16 hP hD hS => ?_)
      obtain rfl : rr17 = 1 := hw16
      have hP : va_P G.1 vwCl [(aout, .inl (G.2.2.2.2, 1, .inr (.inl ((fun _ => 0))))), (x0, .inr (11, ofL 17 Fx0)), (x3, .inr (7, ofL 5 Fx3)), (m0, .inr (12, ofL 88 (updV (updV Fm0 0 (.int 0)) 0 (.int 1))))] H := hP
      have hD : va_D A [(aout, .inl (G.2.2.2.2, 1, .inr (.inl ((fun _ => 0))))), (x0, .inr (11, ofL 17 Fx0)), (x3, .inr (7, ofL 5 Fx3)), (m0, .inr (12, ofL 88 (updV (updV Fm0 0 (.int 0)) 0 (.int 1))))] := hD
      refine lv_iload hx hb dL_law_2022 (lv_at hl 1 rfl) ?_
      refine lv_icmp_eq (x := 1) (y := 1) (tgt := 2029) hx hb dL_law_2024 (by decide) (fun c_19 => ?_) (fun c_19 => ?_)
      rotate_left
      · exact absurd (by decide) c_19
      refine lv_iload hx hb dL_law_2029 (lv_at hl 1 rfl) ?_
      refine lv_if_ne (x := 1) (tgt := 2046) hx hb dL_law_2031 (by decide) (fun c_20 => ?_) (fun c_20 => ?_)
      rotate_left
      · exact absurd c_20 (by decide)
      refine lv_goto (tgt := 2265) hx hb dL_law_2046 (by decide) ?_
      exact law_end hst C0 hA C hS (lv_sub hl [2, 6] rfl) (Nat.le_of_ble_eq_true rfl) (Nat.le_of_ble_eq_true rfl)
  ·
    have hP : va_P G.1 vwCl [(m0, .inr (12, ofL 88 Fm0)), (aout, .inl (G.2.2.2.2, 1, .inr (.inl ((fun _ => 0))))), (x0, .inr (11, ofL 17 Fx0)), (x3, .inr (7, ofL 5 Fx3))] H := hP
    have hD : va_D A [(m0, .inr (12, ofL 88 Fm0)), (aout, .inl (G.2.2.2.2, 1, .inr (.inl ((fun _ => 0))))), (x0, .inr (11, ofL 17 Fx0)), (x3, .inr (7, ofL 5 Fx3))] := hD
    refine lv_istore (lv' := [(5, .int 1), (0, .ref b), (1, .ref x0), (2, .ref m0), (3, .ref aout), (4, .int 0)]) hx hb dL_law_1998 hl (by decide) rfl (fun ls hl => ?_)
    refine lv_aload_n hx hb dL_law_2000 rfl (lv_at hl 3 rfl) ?_
    refine lv_aload_n hx hb dL_law_2001 rfl (lv_at hl 1 rfl) ?_
    refine lv_iload hx hb dL_law_2002 (lv_at hl 5 rfl) ?_
    refine lv_iconst (v := 1) hx hb dL_law_2004 (by decide) ?_
    refine lv_iadd hx hb dL_law_2005 ?_
    refine k_eqi (y := 1) (by decide) ?_
    refine va_sld hx hb hX hbl hbA hS (k_in (by decide)) dL_law_2006 ?_
    refine k_eqi (y := v1) hv1 ?_
    refine lv_aload_n hx hb dL_law_2007 rfl (lv_at hl 1 rfl) ?_
    refine lv_iload hx hb dL_law_2008 (lv_at hl 5 rfl) ?_
    refine lv_iconst (v := 2) hx hb dL_law_2010 (by decide) ?_
    refine lv_iadd hx hb dL_law_2011 ?_
    refine k_eqi (y := 2) (by decide) ?_
    refine va_sld hx hb hX hbl hbA hS (k_in (by decide)) dL_law_2012 ?_
    refine k_eqi (y := v2) hv2 ?_
    refine k_callVi (wr := [(aout, .inl (G.2.2.2.2, 1, .inr (.inl ((fun _ => 0))))), (x0, .inr (11, ofL 17 Fx0)), (x3, .inr (7, ofL 5 Fx3))]) (rest := []) li_L_229 C (c_X12_shift l G H.size m0 v1 v2 Fm0 e_m0_1) (kR rfl) hP hD hS [0] [1, 2, 3] rfl rfl rfl rfl (by decide) 0 12 rfl rfl rfl hl.1 rfl (Nat.le_of_ble_eq_true rfl) dL_law_2013 (fun rr22 uu23 H locs hw21 hP hD hS => ?_)
    rcases hw21 with ⟨rfl, rfl, c_24⟩ | ⟨rfl, rfl, c_25⟩
    ·
      have hP : va_P G.1 vwCl [(aout, .inl (G.2.2.2.2, 1, .inr (.inl ((fun _ => 0))))), (x0, .inr (11, ofL 17 Fx0)), (x3, .inr (7, ofL 5 Fx3)), (m0, .inr (12, ofL 88 (updV (updV Fm0 0 (.int 0)) 0 (.int 1))))] H := hP
      have hD : va_D A [(aout, .inl (G.2.2.2.2, 1, .inr (.inl ((fun _ => 0))))), (x0, .inr (11, ofL 17 Fx0)), (x3, .inr (7, ofL 5 Fx3)), (m0, .inr (12, ofL 88 (updV (updV Fm0 0 (.int 0)) 0 (.int 1))))] := hD
      refine lv_istore (lv' := [(6, .int 0), (5, .int 1), (0, .ref b), (1, .ref x0), (2, .ref m0), (3, .ref aout), (4, .int 0)]) hx hb dL_law_2016 hl (by decide) rfl (fun ls hl => ?_)
      refine lv_aload_n hx hb dL_law_2018 rfl (lv_at hl 4 rfl) ?_
      refine k_callVi (wr := [(aout, .inl (G.2.2.2.2, 1, .inr (.inl ((fun _ => 0))))), (x0, .inr (11, ofL 17 Fx0)), (x3, .inr (7, ofL 5 Fx3))]) (rest := []) li_L_118 C (c_X12_thrown l G H.size m0 (updV (updV Fm0 0 (.int 0)) 0 (.int 1)) 1 rfl) (kR rfl) hP hD hS [3] [0, 1, 2] rfl rfl rfl rfl (by decide) 0 12 rfl rfl rfl hl.1 rfl (Nat.le_of_ble_eq_true rfl) dL_law_2019 (fun rr27 uu28 H locs hw26 hP hD hS => ?_)
      obtain rfl : rr27 = 1 := hw26
      have hP : va_P G.1 vwCl [(aout, .inl (G.2.2.2.2, 1, .inr (.inl ((fun _ => 0))))), (x0, .inr (11, ofL 17 Fx0)), (x3, .inr (7, ofL 5 Fx3)), (m0, .inr (12, ofL 88 (updV (updV Fm0 0 (.int 0)) 0 (.int 1))))] H := hP
      have hD : va_D A [(aout, .inl (G.2.2.2.2, 1, .inr (.inl ((fun _ => 0))))), (x0, .inr (11, ofL 17 Fx0)), (x3, .inr (7, ofL 5 Fx3)), (m0, .inr (12, ofL 88 (updV (updV Fm0 0 (.int 0)) 0 (.int 1))))] := hD
      refine lv_iload hx hb dL_law_2022 (lv_at hl 1 rfl) ?_
      refine lv_icmp_eq (x := 1) (y := 1) (tgt := 2029) hx hb dL_law_2024 (by decide) (fun c_29 => ?_) (fun c_29 => ?_)
      rotate_left
      · exact absurd (by decide) c_29
      refine lv_iload hx hb dL_law_2029 (lv_at hl 1 rfl) ?_
      refine lv_if_ne (x := 1) (tgt := 2046) hx hb dL_law_2031 (by decide) (fun c_30 => ?_) (fun c_30 => ?_)
      rotate_left
      · exact absurd c_30 (by decide)
      refine lv_goto (tgt := 2265) hx hb dL_law_2046 (by decide) ?_
      exact law_end hst C0 hA C hS (lv_sub hl [2, 6] rfl) (Nat.le_of_ble_eq_true rfl) (Nat.le_of_ble_eq_true rfl)
    ·
      have hP : va_P G.1 vwCl [(aout, .inl (G.2.2.2.2, 1, .inr (.inl ((fun _ => 0))))), (x0, .inr (11, ofL 17 Fx0)), (x3, .inr (7, ofL 5 Fx3)), (m0, .inr (12, ofL 88 (updV (updV Fm0 0 (.int 0)) 0 (.int 1))))] H := hP
      have hD : va_D A [(aout, .inl (G.2.2.2.2, 1, .inr (.inl ((fun _ => 0))))), (x0, .inr (11, ofL 17 Fx0)), (x3, .inr (7, ofL 5 Fx3)), (m0, .inr (12, ofL 88 (updV (updV Fm0 0 (.int 0)) 0 (.int 1))))] := hD
      refine lv_istore (lv' := [(6, .int 0), (5, .int 1), (0, .ref b), (1, .ref x0), (2, .ref m0), (3, .ref aout), (4, .int 0)]) hx hb dL_law_2016 hl (by decide) rfl (fun ls hl => ?_)
      refine lv_aload_n hx hb dL_law_2018 rfl (lv_at hl 4 rfl) ?_
      refine k_callVi (wr := [(aout, .inl (G.2.2.2.2, 1, .inr (.inl ((fun _ => 0))))), (x0, .inr (11, ofL 17 Fx0)), (x3, .inr (7, ofL 5 Fx3))]) (rest := []) li_L_118 C (c_X12_thrown l G H.size m0 (updV (updV Fm0 0 (.int 0)) 0 (.int 1)) 1 rfl) (kR rfl) hP hD hS [3] [0, 1, 2] rfl rfl rfl rfl (by decide) 0 12 rfl rfl rfl hl.1 rfl (Nat.le_of_ble_eq_true rfl) dL_law_2019 (fun rr32 uu33 H locs hw31 hP hD hS => ?_)
      obtain rfl : rr32 = 1 := hw31
      have hP : va_P G.1 vwCl [(aout, .inl (G.2.2.2.2, 1, .inr (.inl ((fun _ => 0))))), (x0, .inr (11, ofL 17 Fx0)), (x3, .inr (7, ofL 5 Fx3)), (m0, .inr (12, ofL 88 (updV (updV Fm0 0 (.int 0)) 0 (.int 1))))] H := hP
      have hD : va_D A [(aout, .inl (G.2.2.2.2, 1, .inr (.inl ((fun _ => 0))))), (x0, .inr (11, ofL 17 Fx0)), (x3, .inr (7, ofL 5 Fx3)), (m0, .inr (12, ofL 88 (updV (updV Fm0 0 (.int 0)) 0 (.int 1))))] := hD
      refine lv_iload hx hb dL_law_2022 (lv_at hl 1 rfl) ?_
      refine lv_icmp_eq (x := 1) (y := 1) (tgt := 2029) hx hb dL_law_2024 (by decide) (fun c_34 => ?_) (fun c_34 => ?_)
      rotate_left
      · exact absurd (by decide) c_34
      refine lv_iload hx hb dL_law_2029 (lv_at hl 1 rfl) ?_
      refine lv_if_ne (x := 1) (tgt := 2046) hx hb dL_law_2031 (by decide) (fun c_35 => ?_) (fun c_35 => ?_)
      rotate_left
      · exact absurd c_35 (by decide)
      refine lv_goto (tgt := 2265) hx hb dL_law_2046 (by decide) ?_
      exact law_end hst C0 hA C hS (lv_sub hl [2, 6] rfl) (Nat.le_of_ble_eq_true rfl) (Nat.le_of_ble_eq_true rfl)
set_option maxHeartbeats 4000000 in
set_option maxRecDepth 100000 in
theorem law_34 {p : Program} {e : Env} {s : State} {m : MethodId} {below : List Frame} {meth : Method} {c : Code} {l : Launch} (hst : l.stackTraces = false) {b : Nat} {xs : Nat → Int32} {G : kG} {A : Nat → Prop} (C0 : lw_At p s m meth c b 6 xs) (hA : A = fun q : Nat => s.heap.size ≤ q) (C : kC G p s m c cL_law 8 RL A) {v1 : Int32} (hv1 : xs 1 = v1) {v2 : Int32} (hv2 : xs 2 = v2) {v3 : Int32} (hv3 : xs 3 = v3) {v4 : Int32} (hv4 : xs 4 = v4) {v5 : Int32} (hv5 : xs 5 = v5) {x0 : Nat} {Fx0 : Nat → Value} {x3 : Nat} {Fx3 : Nat → Value} {m0 : Nat} {Fm0 : Nat → Value} {aout : Nat} (e_x0_3 : Fx0 3 = .ref x3) (e_x3_2 : Fx3 2 = .int 0) (e_m0_1 : Fm0 1 = .int 0) {H : Heap} {locs : List Loc} {ls : Array Slot} (hP : va_P G.1 vwCl [(x0, .inr (11, ofL 17 Fx0)), (x3, .inr (7, ofL 5 Fx3)), (m0, .inr (12, ofL 88 Fm0)), (aout, .inl (G.2.2.2.2, 1, .inr (.inl (fun _ => 0))))] H) (hD : va_D A [(x0, .inr (11, ofL 17 Fx0)), (x3, .inr (7, ofL 5 Fx3)), (m0, .inr (12, ofL 88 Fm0)), (aout, .inl (G.2.2.2.2, 1, .inr (.inl (fun _ => 0))))]) (hS : va_S A s.heap H locs) (hl : lv_has ls 8 [(0, .ref b), (1, .ref x0), (2, .ref m0), (3, .ref aout), (4, .int 0)]) :
    W p l e room_1 s m #[Value.ref b] below meth c H locs 1000 20000 (lw_Z below #[Value.ref b] s) (F0 m 2049 ls []) := by
  obtain ⟨hx, hb, hr, -, -, -, hX, hbl, hlocks, -⟩ := id C0
  have hbA : ¬ A b := by rw [hA]; exact Nat.not_le.mpr hbl
  refine lv_aload_n hx hb dL_law_2049 rfl (lv_at hl 1 rfl) ?_
  refine lv_aload_n hx hb dL_law_2050 rfl (lv_at hl 0 rfl) ?_
  refine lv_iload hx hb dL_law_2051 (lv_at hl 4 rfl) ?_
  refine lv_iconst (v := 1) hx hb dL_law_2053 (by decide) ?_
  refine lv_iadd hx hb dL_law_2054 ?_
  refine k_eqi (y := 1) (by decide) ?_
  refine va_sld hx hb hX hbl hbA hS (k_in (by decide)) dL_law_2055 ?_
  refine k_eqi (y := v1) hv1 ?_
  refine lv_aload_n hx hb dL_law_2056 rfl (lv_at hl 0 rfl) ?_
  refine lv_iload hx hb dL_law_2057 (lv_at hl 4 rfl) ?_
  refine lv_iconst (v := 2) hx hb dL_law_2059 (by decide) ?_
  refine lv_iadd hx hb dL_law_2060 ?_
  refine k_eqi (y := 2) (by decide) ?_
  refine va_sld hx hb hX hbl hbA hS (k_in (by decide)) dL_law_2061 ?_
  refine k_eqi (y := v2) hv2 ?_
  refine lv_aload_n hx hb dL_law_2062 rfl (lv_at hl 3 rfl) ?_
  refine k_callHi (wr := [(m0, .inr (12, ofL 88 Fm0))]) (rest := []) li_L_230 C (c_L_harm l hst G H.size x0 v1 v2 aout Fx0 x3 Fx3 (fun _ => 0) e_x0_3 e_x3_2) (kR rfl) hP hD hS [0, 1, 3] [2] rfl rfl rfl rfl (by decide) rfl hl.1 rfl (Nat.le_of_ble_eq_true rfl) dL_law_2063 (fun rr2 uu3 H locs hw1 hP hD hS => ?_)
  rcases hw1 with ⟨rfl, rfl, c_4⟩ | ⟨rfl, rfl, c_5⟩
  ·
    have hP : va_P G.1 vwCl [(m0, .inr (12, ofL 88 Fm0)), (aout, .inl (G.2.2.2.2, 1, .inr (.inl ((fun _ => 0))))), (x0, .inr (11, ofL 17 Fx0)), (x3, .inr (7, ofL 5 Fx3))] H := hP
    have hD : va_D A [(m0, .inr (12, ofL 88 Fm0)), (aout, .inl (G.2.2.2.2, 1, .inr (.inl ((fun _ => 0))))), (x0, .inr (11, ofL 17 Fx0)), (x3, .inr (7, ofL 5 Fx3))] := hD
    refine lv_istore (lv' := [(5, .int 1), (0, .ref b), (1, .ref x0), (2, .ref m0), (3, .ref aout), (4, .int 0)]) hx hb dL_law_2066 hl (by decide) rfl (fun ls hl => ?_)
    refine lv_aload_n hx hb dL_law_2068 rfl (lv_at hl 3 rfl) ?_
    refine lv_aload_n hx hb dL_law_2069 rfl (lv_at hl 1 rfl) ?_
    refine lv_iload hx hb dL_law_2070 (lv_at hl 5 rfl) ?_
    refine lv_iconst (v := 1) hx hb dL_law_2072 (by decide) ?_
    refine lv_iadd hx hb dL_law_2073 ?_
    refine k_eqi (y := 1) (by decide) ?_
    refine va_sld hx hb hX hbl hbA hS (k_in (by decide)) dL_law_2074 ?_
    refine k_eqi (y := v1) hv1 ?_
    refine lv_aload_n hx hb dL_law_2075 rfl (lv_at hl 1 rfl) ?_
    refine lv_iload hx hb dL_law_2076 (lv_at hl 5 rfl) ?_
    refine lv_iconst (v := 2) hx hb dL_law_2078 (by decide) ?_
    refine lv_iadd hx hb dL_law_2079 ?_
    refine k_eqi (y := 2) (by decide) ?_
    refine va_sld hx hb hX hbl hbA hS (k_in (by decide)) dL_law_2080 ?_
    refine k_eqi (y := v2) hv2 ?_
    refine k_callVi (wr := [(aout, .inl (G.2.2.2.2, 1, .inr (.inl ((fun _ => 0))))), (x0, .inr (11, ofL 17 Fx0)), (x3, .inr (7, ofL 5 Fx3))]) (rest := []) li_L_232 C (c_X12_harm l G H.size m0 v1 v2 Fm0 e_m0_1) (kR rfl) hP hD hS [0] [1, 2, 3] rfl rfl rfl rfl (by decide) 0 12 rfl rfl rfl hl.1 rfl (Nat.le_of_ble_eq_true rfl) dL_law_2081 (fun rr7 uu8 H locs hw6 hP hD hS => ?_)
    rcases hw6 with ⟨rfl, rfl, c_9⟩ | ⟨rfl, rfl, c_10⟩
    ·
      have hP : va_P G.1 vwCl [(aout, .inl (G.2.2.2.2, 1, .inr (.inl ((fun _ => 0))))), (x0, .inr (11, ofL 17 Fx0)), (x3, .inr (7, ofL 5 Fx3)), (m0, .inr (12, ofL 88 (updV (updV Fm0 0 (.int 0)) 0 (.int 1))))] H := hP
      have hD : va_D A [(aout, .inl (G.2.2.2.2, 1, .inr (.inl ((fun _ => 0))))), (x0, .inr (11, ofL 17 Fx0)), (x3, .inr (7, ofL 5 Fx3)), (m0, .inr (12, ofL 88 (updV (updV Fm0 0 (.int 0)) 0 (.int 1))))] := hD
      refine lv_istore (lv' := [(6, .int 0), (5, .int 1), (0, .ref b), (1, .ref x0), (2, .ref m0), (3, .ref aout), (4, .int 0)]) hx hb dL_law_2084 hl (by decide) rfl (fun ls hl => ?_)
      refine lv_aload_n hx hb dL_law_2086 rfl (lv_at hl 4 rfl) ?_
      refine k_callVi (wr := [(aout, .inl (G.2.2.2.2, 1, .inr (.inl ((fun _ => 0))))), (x0, .inr (11, ofL 17 Fx0)), (x3, .inr (7, ofL 5 Fx3))]) (rest := []) li_L_118 C (c_X12_thrown l G H.size m0 (updV (updV Fm0 0 (.int 0)) 0 (.int 1)) 1 rfl) (kR rfl) hP hD hS [3] [0, 1, 2] rfl rfl rfl rfl (by decide) 0 12 rfl rfl rfl hl.1 rfl (Nat.le_of_ble_eq_true rfl) dL_law_2087 (fun rr12 uu13 H locs hw11 hP hD hS => ?_)
      obtain rfl : rr12 = 1 := hw11
      have hP : va_P G.1 vwCl [(aout, .inl (G.2.2.2.2, 1, .inr (.inl ((fun _ => 0))))), (x0, .inr (11, ofL 17 Fx0)), (x3, .inr (7, ofL 5 Fx3)), (m0, .inr (12, ofL 88 (updV (updV Fm0 0 (.int 0)) 0 (.int 1))))] H := hP
      have hD : va_D A [(aout, .inl (G.2.2.2.2, 1, .inr (.inl ((fun _ => 0))))), (x0, .inr (11, ofL 17 Fx0)), (x3, .inr (7, ofL 5 Fx3)), (m0, .inr (12, ofL 88 (updV (updV Fm0 0 (.int 0)) 0 (.int 1))))] := hD
      refine lv_iload hx hb dL_law_2090 (lv_at hl 1 rfl) ?_
      refine lv_icmp_eq (x := 1) (y := 1) (tgt := 2097) hx hb dL_law_2092 (by decide) (fun c_14 => ?_) (fun c_14 => ?_)
      rotate_left
      · exact absurd (by decide) c_14
      refine lv_iload hx hb dL_law_2097 (lv_at hl 1 rfl) ?_
      refine lv_if_ne (x := 1) (tgt := 2114) hx hb dL_law_2099 (by decide) (fun c_15 => ?_) (fun c_15 => ?_)
      rotate_left
      · exact absurd c_15 (by decide)
      refine lv_goto (tgt := 2265) hx hb dL_law_2114 (by decide) ?_
      exact law_end hst C0 hA C hS (lv_sub hl [2, 6] rfl) (Nat.le_of_ble_eq_true rfl) (Nat.le_of_ble_eq_true rfl)
    ·
      have hP : va_P G.1 vwCl [(aout, .inl (G.2.2.2.2, 1, .inr (.inl ((fun _ => 0))))), (x0, .inr (11, ofL 17 Fx0)), (x3, .inr (7, ofL 5 Fx3)), (m0, .inr (12, ofL 88 (updV (updV Fm0 0 (.int 0)) 0 (.int 1))))] H := hP
      have hD : va_D A [(aout, .inl (G.2.2.2.2, 1, .inr (.inl ((fun _ => 0))))), (x0, .inr (11, ofL 17 Fx0)), (x3, .inr (7, ofL 5 Fx3)), (m0, .inr (12, ofL 88 (updV (updV Fm0 0 (.int 0)) 0 (.int 1))))] := hD
      refine lv_istore (lv' := [(6, .int 0), (5, .int 1), (0, .ref b), (1, .ref x0), (2, .ref m0), (3, .ref aout), (4, .int 0)]) hx hb dL_law_2084 hl (by decide) rfl (fun ls hl => ?_)
      refine lv_aload_n hx hb dL_law_2086 rfl (lv_at hl 4 rfl) ?_
      refine k_callVi (wr := [(aout, .inl (G.2.2.2.2, 1, .inr (.inl ((fun _ => 0))))), (x0, .inr (11, ofL 17 Fx0)), (x3, .inr (7, ofL 5 Fx3))]) (rest := []) li_L_118 C (c_X12_thrown l G H.size m0 (updV (updV Fm0 0 (.int 0)) 0 (.int 1)) 1 rfl) (kR rfl) hP hD hS [3] [0, 1, 2] rfl rfl rfl rfl (by decide) 0 12 rfl rfl rfl hl.1 rfl (Nat.le_of_ble_eq_true rfl) dL_law_2087 (fun rr17 uu18 H locs hw16 hP hD hS => ?_)
      obtain rfl : rr17 = 1 := hw16
      have hP : va_P G.1 vwCl [(aout, .inl (G.2.2.2.2, 1, .inr (.inl ((fun _ => 0))))), (x0, .inr (11, ofL 17 Fx0)), (x3, .inr (7, ofL 5 Fx3)), (m0, .inr (12, ofL 88 (updV (updV Fm0 0 (.int 0)) 0 (.int 1))))] H := hP
      have hD : va_D A [(aout, .inl (G.2.2.2.2, 1, .inr (.inl ((fun _ => 0))))), (x0, .inr (11, ofL 17 Fx0)), (x3, .inr (7, ofL 5 Fx3)), (m0, .inr (12, ofL 88 (updV (updV Fm0 0 (.int 0)) 0 (.int 1))))] := hD
      refine lv_iload hx hb dL_law_2090 (lv_at hl 1 rfl) ?_
      refine lv_icmp_eq (x := 1) (y := 1) (tgt := 2097) hx hb dL_law_2092 (by decide) (fun c_19 => ?_) (fun c_19 => ?_)
      rotate_left
      · exact absurd (by decide) c_19
      refine lv_iload hx hb dL_law_2097 (lv_at hl 1 rfl) ?_
      refine lv_if_ne (x := 1) (tgt := 2114) hx hb dL_law_2099 (by decide) (fun c_20 => ?_) (fun c_20 => ?_)
      rotate_left
      · exact absurd c_20 (by decide)
      refine lv_goto (tgt := 2265) hx hb dL_law_2114 (by decide) ?_
      exact law_end hst C0 hA C hS (lv_sub hl [2, 6] rfl) (Nat.le_of_ble_eq_true rfl) (Nat.le_of_ble_eq_true rfl)
  ·
    have hP : va_P G.1 vwCl [(m0, .inr (12, ofL 88 Fm0)), (aout, .inl (G.2.2.2.2, 1, .inr (.inl ((fun _ => 0))))), (x0, .inr (11, ofL 17 Fx0)), (x3, .inr (7, ofL 5 Fx3))] H := hP
    have hD : va_D A [(m0, .inr (12, ofL 88 Fm0)), (aout, .inl (G.2.2.2.2, 1, .inr (.inl ((fun _ => 0))))), (x0, .inr (11, ofL 17 Fx0)), (x3, .inr (7, ofL 5 Fx3))] := hD
    refine lv_istore (lv' := [(5, .int 1), (0, .ref b), (1, .ref x0), (2, .ref m0), (3, .ref aout), (4, .int 0)]) hx hb dL_law_2066 hl (by decide) rfl (fun ls hl => ?_)
    refine lv_aload_n hx hb dL_law_2068 rfl (lv_at hl 3 rfl) ?_
    refine lv_aload_n hx hb dL_law_2069 rfl (lv_at hl 1 rfl) ?_
    refine lv_iload hx hb dL_law_2070 (lv_at hl 5 rfl) ?_
    refine lv_iconst (v := 1) hx hb dL_law_2072 (by decide) ?_
    refine lv_iadd hx hb dL_law_2073 ?_
    refine k_eqi (y := 1) (by decide) ?_
    refine va_sld hx hb hX hbl hbA hS (k_in (by decide)) dL_law_2074 ?_
    refine k_eqi (y := v1) hv1 ?_
    refine lv_aload_n hx hb dL_law_2075 rfl (lv_at hl 1 rfl) ?_
    refine lv_iload hx hb dL_law_2076 (lv_at hl 5 rfl) ?_
    refine lv_iconst (v := 2) hx hb dL_law_2078 (by decide) ?_
    refine lv_iadd hx hb dL_law_2079 ?_
    refine k_eqi (y := 2) (by decide) ?_
    refine va_sld hx hb hX hbl hbA hS (k_in (by decide)) dL_law_2080 ?_
    refine k_eqi (y := v2) hv2 ?_
    refine k_callVi (wr := [(aout, .inl (G.2.2.2.2, 1, .inr (.inl ((fun _ => 0))))), (x0, .inr (11, ofL 17 Fx0)), (x3, .inr (7, ofL 5 Fx3))]) (rest := []) li_L_232 C (c_X12_harm l G H.size m0 v1 v2 Fm0 e_m0_1) (kR rfl) hP hD hS [0] [1, 2, 3] rfl rfl rfl rfl (by decide) 0 12 rfl rfl rfl hl.1 rfl (Nat.le_of_ble_eq_true rfl) dL_law_2081 (fun rr22 uu23 H locs hw21 hP hD hS => ?_)
    rcases hw21 with ⟨rfl, rfl, c_24⟩ | ⟨rfl, rfl, c_25⟩
    ·
      have hP : va_P G.1 vwCl [(aout, .inl (G.2.2.2.2, 1, .inr (.inl ((fun _ => 0))))), (x0, .inr (11, ofL 17 Fx0)), (x3, .inr (7, ofL 5 Fx3)), (m0, .inr (12, ofL 88 (updV (updV Fm0 0 (.int 0)) 0 (.int 1))))] H := hP
      have hD : va_D A [(aout, .inl (G.2.2.2.2, 1, .inr (.inl ((fun _ => 0))))), (x0, .inr (11, ofL 17 Fx0)), (x3, .inr (7, ofL 5 Fx3)), (m0, .inr (12, ofL 88 (updV (updV Fm0 0 (.int 0)) 0 (.int 1))))] := hD
      refine lv_istore (lv' := [(6, .int 0), (5, .int 1), (0, .ref b), (1, .ref x0), (2, .ref m0), (3, .ref aout), (4, .int 0)]) hx hb dL_law_2084 hl (by decide) rfl (fun ls hl => ?_)
      refine lv_aload_n hx hb dL_law_2086 rfl (lv_at hl 4 rfl) ?_
      refine k_callVi (wr := [(aout, .inl (G.2.2.2.2, 1, .inr (.inl ((fun _ => 0))))), (x0, .inr (11, ofL 17 Fx0)), (x3, .inr (7, ofL 5 Fx3))]) (rest := []) li_L_118 C (c_X12_thrown l G H.size m0 (updV (updV Fm0 0 (.int 0)) 0 (.int 1)) 1 rfl) (kR rfl) hP hD hS [3] [0, 1, 2] rfl rfl rfl rfl (by decide) 0 12 rfl rfl rfl hl.1 rfl (Nat.le_of_ble_eq_true rfl) dL_law_2087 (fun rr27 uu28 H locs hw26 hP hD hS => ?_)
      obtain rfl : rr27 = 1 := hw26
      have hP : va_P G.1 vwCl [(aout, .inl (G.2.2.2.2, 1, .inr (.inl ((fun _ => 0))))), (x0, .inr (11, ofL 17 Fx0)), (x3, .inr (7, ofL 5 Fx3)), (m0, .inr (12, ofL 88 (updV (updV Fm0 0 (.int 0)) 0 (.int 1))))] H := hP
      have hD : va_D A [(aout, .inl (G.2.2.2.2, 1, .inr (.inl ((fun _ => 0))))), (x0, .inr (11, ofL 17 Fx0)), (x3, .inr (7, ofL 5 Fx3)), (m0, .inr (12, ofL 88 (updV (updV Fm0 0 (.int 0)) 0 (.int 1))))] := hD
      refine lv_iload hx hb dL_law_2090 (lv_at hl 1 rfl) ?_
      refine lv_icmp_eq (x := 1) (y := 1) (tgt := 2097) hx hb dL_law_2092 (by decide) (fun c_29 => ?_) (fun c_29 => ?_)
      rotate_left
      · exact absurd (by decide) c_29
      refine lv_iload hx hb dL_law_2097 (lv_at hl 1 rfl) ?_
      refine lv_if_ne (x := 1) (tgt := 2114) hx hb dL_law_2099 (by decide) (fun c_30 => ?_) (fun c_30 => ?_)
      rotate_left
      · exact absurd c_30 (by decide)
      refine lv_goto (tgt := 2265) hx hb dL_law_2114 (by decide) ?_
      exact law_end hst C0 hA C hS (lv_sub hl [2, 6] rfl) (Nat.le_of_ble_eq_true rfl) (Nat.le_of_ble_eq_true rfl)
    ·
      have hP : va_P G.1 vwCl [(aout, .inl (G.2.2.2.2, 1, .inr (.inl ((fun _ => 0))))), (x0, .inr (11, ofL 17 Fx0)), (x3, .inr (7, ofL 5 Fx3)), (m0, .inr (12, ofL 88 (updV (updV Fm0 0 (.int 0)) 0 (.int 1))))] H := hP
      have hD : va_D A [(aout, .inl (G.2.2.2.2, 1, .inr (.inl ((fun _ => 0))))), (x0, .inr (11, ofL 17 Fx0)), (x3, .inr (7, ofL 5 Fx3)), (m0, .inr (12, ofL 88 (updV (updV Fm0 0 (.int 0)) 0 (.int 1))))] := hD
      refine lv_istore (lv' := [(6, .int 0), (5, .int 1), (0, .ref b), (1, .ref x0), (2, .ref m0), (3, .ref aout), (4, .int 0)]) hx hb dL_law_2084 hl (by decide) rfl (fun ls hl => ?_)
      refine lv_aload_n hx hb dL_law_2086 rfl (lv_at hl 4 rfl) ?_
      refine k_callVi (wr := [(aout, .inl (G.2.2.2.2, 1, .inr (.inl ((fun _ => 0))))), (x0, .inr (11, ofL 17 Fx0)), (x3, .inr (7, ofL 5 Fx3))]) (rest := []) li_L_118 C (c_X12_thrown l G H.size m0 (updV (updV Fm0 0 (.int 0)) 0 (.int 1)) 1 rfl) (kR rfl) hP hD hS [3] [0, 1, 2] rfl rfl rfl rfl (by decide) 0 12 rfl rfl rfl hl.1 rfl (Nat.le_of_ble_eq_true rfl) dL_law_2087 (fun rr32 uu33 H locs hw31 hP hD hS => ?_)
      obtain rfl : rr32 = 1 := hw31
      have hP : va_P G.1 vwCl [(aout, .inl (G.2.2.2.2, 1, .inr (.inl ((fun _ => 0))))), (x0, .inr (11, ofL 17 Fx0)), (x3, .inr (7, ofL 5 Fx3)), (m0, .inr (12, ofL 88 (updV (updV Fm0 0 (.int 0)) 0 (.int 1))))] H := hP
      have hD : va_D A [(aout, .inl (G.2.2.2.2, 1, .inr (.inl ((fun _ => 0))))), (x0, .inr (11, ofL 17 Fx0)), (x3, .inr (7, ofL 5 Fx3)), (m0, .inr (12, ofL 88 (updV (updV Fm0 0 (.int 0)) 0 (.int 1))))] := hD
      refine lv_iload hx hb dL_law_2090 (lv_at hl 1 rfl) ?_
      refine lv_icmp_eq (x := 1) (y := 1) (tgt := 2097) hx hb dL_law_2092 (by decide) (fun c_34 => ?_) (fun c_34 => ?_)
      rotate_left
      · exact absurd (by decide) c_34
      refine lv_iload hx hb dL_law_2097 (lv_at hl 1 rfl) ?_
      refine lv_if_ne (x := 1) (tgt := 2114) hx hb dL_law_2099 (by decide) (fun c_35 => ?_) (fun c_35 => ?_)
      rotate_left
      · exact absurd c_35 (by decide)
      refine lv_goto (tgt := 2265) hx hb dL_law_2114 (by decide) ?_
      exact law_end hst C0 hA C hS (lv_sub hl [2, 6] rfl) (Nat.le_of_ble_eq_true rfl) (Nat.le_of_ble_eq_true rfl)
set_option maxHeartbeats 4000000 in
set_option maxRecDepth 100000 in
theorem law_35 {p : Program} {e : Env} {s : State} {m : MethodId} {below : List Frame} {meth : Method} {c : Code} {l : Launch} (hst : l.stackTraces = false) {b : Nat} {xs : Nat → Int32} {G : kG} {A : Nat → Prop} (C0 : lw_At p s m meth c b 6 xs) (hA : A = fun q : Nat => s.heap.size ≤ q) (C : kC G p s m c cL_law 8 RL A) {v1 : Int32} (hv1 : xs 1 = v1) {v2 : Int32} (hv2 : xs 2 = v2) {v3 : Int32} (hv3 : xs 3 = v3) {v4 : Int32} (hv4 : xs 4 = v4) {v5 : Int32} (hv5 : xs 5 = v5) {x0 : Nat} {Fx0 : Nat → Value} {x28 : Nat} {x3 : Nat} {Fx3 : Nat → Value} {Fx28 : Nat → Value} {x31 : Nat} {x29 : Nat} {Fx29 : Nat → Value} {Fx31 : Nat → Value} {m0 : Nat} {Fm0 : Nat → Value} {m12 : Nat} {m42 : Nat} {aout : Nat} (e_x0_9 : Fx0 9 = .ref x28) (e_x3_2 : Fx3 2 = .int 0) (e_x28_0 : Fx28 0 = .ref x31) (e_x28_2 : Fx28 2 = .ref x29) (e_x31_7 : Fx31 7 = .ref x3) (e_m0_1 : Fm0 1 = .int 0) (e_m0_16 : Fm0 16 = .ref m12) (e_m0_72 : Fm0 72 = .ref m42) {H : Heap} {locs : List Loc} {ls : Array Slot} (hP : va_P G.1 vwCl [(x0, .inr (11, ofL 17 Fx0)), (x3, .inr (7, ofL 5 Fx3)), (x28, .inr (10, ofL 7 Fx28)), (x29, .inr (4, ofL 3 Fx29)), (x31, .inr (1, ofL 10 Fx31)), (m0, .inr (12, ofL 88 Fm0)), (m12, .inl (G.2.1, 48, .inl (fun _ => 0))), (m42, .inl (G.2.1, 48, .inl (fun _ => 0))), (aout, .inl (G.2.2.2.2, 1, .inr (.inl (fun _ => 0))))] H) (hD : va_D A [(x0, .inr (11, ofL 17 Fx0)), (x3, .inr (7, ofL 5 Fx3)), (x28, .inr (10, ofL 7 Fx28)), (x29, .inr (4, ofL 3 Fx29)), (x31, .inr (1, ofL 10 Fx31)), (m0, .inr (12, ofL 88 Fm0)), (m12, .inl (G.2.1, 48, .inl (fun _ => 0))), (m42, .inl (G.2.1, 48, .inl (fun _ => 0))), (aout, .inl (G.2.2.2.2, 1, .inr (.inl (fun _ => 0))))]) (hS : va_S A s.heap H locs) (hl : lv_has ls 8 [(0, .ref b), (1, .ref x0), (2, .ref m0), (3, .ref aout), (4, .int 0)]) :
    W p l e room_1 s m #[Value.ref b] below meth c H locs 1000 20000 (lw_Z below #[Value.ref b] s) (F0 m 2117 ls []) := by
  obtain ⟨hx, hb, hr, -, -, -, hX, hbl, hlocks, -⟩ := id C0
  have hbA : ¬ A b := by rw [hA]; exact Nat.not_le.mpr hbl
  refine lv_aload_n hx hb dL_law_2117 rfl (lv_at hl 1 rfl) ?_
  refine lv_aload_n hx hb dL_law_2118 rfl (lv_at hl 0 rfl) ?_
  refine lv_iload hx hb dL_law_2119 (lv_at hl 4 rfl) ?_
  refine lv_iconst (v := 1) hx hb dL_law_2121 (by decide) ?_
  refine lv_iadd hx hb dL_law_2122 ?_
  refine k_eqi (y := 1) (by decide) ?_
  refine va_sld hx hb hX hbl hbA hS (k_in (by decide)) dL_law_2123 ?_
  refine k_eqi (y := v1) hv1 ?_
  refine lv_aload_n hx hb dL_law_2124 rfl (lv_at hl 3 rfl) ?_
  refine k_callHi (wr := [(m0, .inr (12, ofL 88 Fm0)), (m12, .inl (G.2.1, 48, .inl (fun _ => 0))), (m42, .inl (G.2.1, 48, .inl (fun _ => 0)))]) (rest := []) li_L_233 C (c_L_pair l hst G H.size x0 v1 aout Fx0 x28 Fx28 x31 x29 Fx31 x3 Fx3 Fx29 (fun _ => 0) e_x0_9 e_x28_0 e_x28_2 e_x31_7 e_x3_2) (kR rfl) hP hD hS [0, 2, 4, 1, 3, 8] [5, 6, 7] rfl rfl rfl rfl (by decide) rfl hl.1 rfl (Nat.le_of_ble_eq_true rfl) dL_law_2125 (fun rr2 uu3 H locs hw1 hP hD hS => ?_)
  rcases hw1 with ⟨rfl, rfl, c_4⟩ | ⟨rfl, rfl, c_5, c_6⟩ | ⟨rfl, rfl, c_7, c_8⟩
  ·
    have hP : va_P G.1 vwCl [(m0, .inr (12, ofL 88 Fm0)), (m12, .inl (G.2.1, 48, .inl (fun _ => 0))), (m42, .inl (G.2.1, 48, .inl (fun _ => 0))), (aout, .inl (G.2.2.2.2, 1, .inr (.inl ((fun _ => 0))))), (x0, .inr (11, ofL 17 Fx0)), (x28, .inr (10, ofL 7 Fx28)), (x31, .inr (1, ofL 10 Fx31)), (x3, .inr (7, ofL 5 Fx3)), (x29, .inr (4, ofL 3 Fx29))] H := hP
    have hD : va_D A [(m0, .inr (12, ofL 88 Fm0)), (m12, .inl (G.2.1, 48, .inl (fun _ => 0))), (m42, .inl (G.2.1, 48, .inl (fun _ => 0))), (aout, .inl (G.2.2.2.2, 1, .inr (.inl ((fun _ => 0))))), (x0, .inr (11, ofL 17 Fx0)), (x28, .inr (10, ofL 7 Fx28)), (x31, .inr (1, ofL 10 Fx31)), (x3, .inr (7, ofL 5 Fx3)), (x29, .inr (4, ofL 3 Fx29))] := hD
    refine lv_istore (lv' := [(5, .int 1), (0, .ref b), (1, .ref x0), (2, .ref m0), (3, .ref aout), (4, .int 0)]) hx hb dL_law_2128 hl (by decide) rfl (fun ls hl => ?_)
    refine lv_aload_n hx hb dL_law_2130 rfl (lv_at hl 3 rfl) ?_
    refine lv_aload_n hx hb dL_law_2131 rfl (lv_at hl 1 rfl) ?_
    refine lv_iload hx hb dL_law_2132 (lv_at hl 5 rfl) ?_
    refine lv_iconst (v := 1) hx hb dL_law_2134 (by decide) ?_
    refine lv_iadd hx hb dL_law_2135 ?_
    refine k_eqi (y := 1) (by decide) ?_
    refine va_sld hx hb hX hbl hbA hS (k_in (by decide)) dL_law_2136 ?_
    refine k_eqi (y := v1) hv1 ?_
    refine k_callVi (wr := [(aout, .inl (G.2.2.2.2, 1, .inr (.inl ((fun _ => 0))))), (x0, .inr (11, ofL 17 Fx0)), (x28, .inr (10, ofL 7 Fx28)), (x31, .inr (1, ofL 10 Fx31)), (x3, .inr (7, ofL 5 Fx3)), (x29, .inr (4, ofL 3 Fx29))]) (rest := []) li_L_235 C (c_X12_pair l G H.size m0 v1 Fm0 m12 m42 (fun _ => 0) (fun _ => 0) e_m0_1 e_m0_16 e_m0_72) (kR rfl) hP hD hS [0, 1, 2] [3, 4, 5, 6, 7, 8] rfl rfl rfl rfl (by decide) 0 12 rfl rfl rfl hl.1 rfl (Nat.le_of_ble_eq_true rfl) dL_law_2137 (fun rr10 uu11 H locs hw9 hP hD hS => ?_)
    rcases hw9 with ⟨rfl, rfl, c_12⟩ | ⟨rfl, rfl, c_13, c_14⟩ | ⟨rfl, rfl, c_15, c_16⟩
    ·
      have hP : va_P G.1 vwCl [(aout, .inl (G.2.2.2.2, 1, .inr (.inl ((fun _ => 0))))), (x0, .inr (11, ofL 17 Fx0)), (x28, .inr (10, ofL 7 Fx28)), (x31, .inr (1, ofL 10 Fx31)), (x3, .inr (7, ofL 5 Fx3)), (x29, .inr (4, ofL 3 Fx29)), (m0, .inr (12, ofL 88 (updV (updV Fm0 0 (.int 0)) 0 (.int 1))))] H := hP
      have hD : va_D A [(aout, .inl (G.2.2.2.2, 1, .inr (.inl ((fun _ => 0))))), (x0, .inr (11, ofL 17 Fx0)), (x28, .inr (10, ofL 7 Fx28)), (x31, .inr (1, ofL 10 Fx31)), (x3, .inr (7, ofL 5 Fx3)), (x29, .inr (4, ofL 3 Fx29)), (m0, .inr (12, ofL 88 (updV (updV Fm0 0 (.int 0)) 0 (.int 1))))] := hD
      refine lv_istore (lv' := [(6, .int 0), (5, .int 1), (0, .ref b), (1, .ref x0), (2, .ref m0), (3, .ref aout), (4, .int 0)]) hx hb dL_law_2140 hl (by decide) rfl (fun ls hl => ?_)
      refine lv_aload_n hx hb dL_law_2142 rfl (lv_at hl 4 rfl) ?_
      refine k_callVi (wr := [(aout, .inl (G.2.2.2.2, 1, .inr (.inl ((fun _ => 0))))), (x0, .inr (11, ofL 17 Fx0)), (x28, .inr (10, ofL 7 Fx28)), (x31, .inr (1, ofL 10 Fx31)), (x3, .inr (7, ofL 5 Fx3)), (x29, .inr (4, ofL 3 Fx29))]) (rest := []) li_L_118 C (c_X12_thrown l G H.size m0 (updV (updV Fm0 0 (.int 0)) 0 (.int 1)) 1 rfl) (kR rfl) hP hD hS [6] [0, 1, 2, 3, 4, 5] rfl rfl rfl rfl (by decide) 0 12 rfl rfl rfl hl.1 rfl (Nat.le_of_ble_eq_true rfl) dL_law_2143 (fun rr18 uu19 H locs hw17 hP hD hS => ?_)
      obtain rfl : rr18 = 1 := hw17
      have hP : va_P G.1 vwCl [(aout, .inl (G.2.2.2.2, 1, .inr (.inl ((fun _ => 0))))), (x0, .inr (11, ofL 17 Fx0)), (x28, .inr (10, ofL 7 Fx28)), (x31, .inr (1, ofL 10 Fx31)), (x3, .inr (7, ofL 5 Fx3)), (x29, .inr (4, ofL 3 Fx29)), (m0, .inr (12, ofL 88 (updV (updV Fm0 0 (.int 0)) 0 (.int 1))))] H := hP
      have hD : va_D A [(aout, .inl (G.2.2.2.2, 1, .inr (.inl ((fun _ => 0))))), (x0, .inr (11, ofL 17 Fx0)), (x28, .inr (10, ofL 7 Fx28)), (x31, .inr (1, ofL 10 Fx31)), (x3, .inr (7, ofL 5 Fx3)), (x29, .inr (4, ofL 3 Fx29)), (m0, .inr (12, ofL 88 (updV (updV Fm0 0 (.int 0)) 0 (.int 1))))] := hD
      refine lv_iload hx hb dL_law_2146 (lv_at hl 1 rfl) ?_
      refine lv_icmp_eq (x := 1) (y := 1) (tgt := 2153) hx hb dL_law_2148 (by decide) (fun c_20 => ?_) (fun c_20 => ?_)
      rotate_left
      · exact absurd (by decide) c_20
      refine lv_iload hx hb dL_law_2153 (lv_at hl 1 rfl) ?_
      refine lv_if_ne (x := 1) (tgt := 2170) hx hb dL_law_2155 (by decide) (fun c_21 => ?_) (fun c_21 => ?_)
      rotate_left
      · exact absurd c_21 (by decide)
      refine lv_goto (tgt := 2265) hx hb dL_law_2170 (by decide) ?_
      exact law_end hst C0 hA C hS (lv_sub hl [2, 6] rfl) (Nat.le_of_ble_eq_true rfl) (Nat.le_of_ble_eq_true rfl)
    ·
      have hP : va_P G.1 vwCl [(aout, .inl (G.2.2.2.2, 1, .inr (.inl ((fun _ => 0))))), (x0, .inr (11, ofL 17 Fx0)), (x28, .inr (10, ofL 7 Fx28)), (x31, .inr (1, ofL 10 Fx31)), (x3, .inr (7, ofL 5 Fx3)), (x29, .inr (4, ofL 3 Fx29)), (m0, .inr (12, ofL 88 (updV (updV Fm0 0 (.int 0)) 0 (.int 1))))] H := hP
      have hD : va_D A [(aout, .inl (G.2.2.2.2, 1, .inr (.inl ((fun _ => 0))))), (x0, .inr (11, ofL 17 Fx0)), (x28, .inr (10, ofL 7 Fx28)), (x31, .inr (1, ofL 10 Fx31)), (x3, .inr (7, ofL 5 Fx3)), (x29, .inr (4, ofL 3 Fx29)), (m0, .inr (12, ofL 88 (updV (updV Fm0 0 (.int 0)) 0 (.int 1))))] := hD
      refine lv_istore (lv' := [(6, .int 0), (5, .int 1), (0, .ref b), (1, .ref x0), (2, .ref m0), (3, .ref aout), (4, .int 0)]) hx hb dL_law_2140 hl (by decide) rfl (fun ls hl => ?_)
      refine lv_aload_n hx hb dL_law_2142 rfl (lv_at hl 4 rfl) ?_
      refine k_callVi (wr := [(aout, .inl (G.2.2.2.2, 1, .inr (.inl ((fun _ => 0))))), (x0, .inr (11, ofL 17 Fx0)), (x28, .inr (10, ofL 7 Fx28)), (x31, .inr (1, ofL 10 Fx31)), (x3, .inr (7, ofL 5 Fx3)), (x29, .inr (4, ofL 3 Fx29))]) (rest := []) li_L_118 C (c_X12_thrown l G H.size m0 (updV (updV Fm0 0 (.int 0)) 0 (.int 1)) 1 rfl) (kR rfl) hP hD hS [6] [0, 1, 2, 3, 4, 5] rfl rfl rfl rfl (by decide) 0 12 rfl rfl rfl hl.1 rfl (Nat.le_of_ble_eq_true rfl) dL_law_2143 (fun rr23 uu24 H locs hw22 hP hD hS => ?_)
      obtain rfl : rr23 = 1 := hw22
      have hP : va_P G.1 vwCl [(aout, .inl (G.2.2.2.2, 1, .inr (.inl ((fun _ => 0))))), (x0, .inr (11, ofL 17 Fx0)), (x28, .inr (10, ofL 7 Fx28)), (x31, .inr (1, ofL 10 Fx31)), (x3, .inr (7, ofL 5 Fx3)), (x29, .inr (4, ofL 3 Fx29)), (m0, .inr (12, ofL 88 (updV (updV Fm0 0 (.int 0)) 0 (.int 1))))] H := hP
      have hD : va_D A [(aout, .inl (G.2.2.2.2, 1, .inr (.inl ((fun _ => 0))))), (x0, .inr (11, ofL 17 Fx0)), (x28, .inr (10, ofL 7 Fx28)), (x31, .inr (1, ofL 10 Fx31)), (x3, .inr (7, ofL 5 Fx3)), (x29, .inr (4, ofL 3 Fx29)), (m0, .inr (12, ofL 88 (updV (updV Fm0 0 (.int 0)) 0 (.int 1))))] := hD
      refine lv_iload hx hb dL_law_2146 (lv_at hl 1 rfl) ?_
      refine lv_icmp_eq (x := 1) (y := 1) (tgt := 2153) hx hb dL_law_2148 (by decide) (fun c_25 => ?_) (fun c_25 => ?_)
      rotate_left
      · exact absurd (by decide) c_25
      refine lv_iload hx hb dL_law_2153 (lv_at hl 1 rfl) ?_
      refine lv_if_ne (x := 1) (tgt := 2170) hx hb dL_law_2155 (by decide) (fun c_26 => ?_) (fun c_26 => ?_)
      rotate_left
      · exact absurd c_26 (by decide)
      refine lv_goto (tgt := 2265) hx hb dL_law_2170 (by decide) ?_
      exact law_end hst C0 hA C hS (lv_sub hl [2, 6] rfl) (Nat.le_of_ble_eq_true rfl) (Nat.le_of_ble_eq_true rfl)
    ·
      have hP : va_P G.1 vwCl [(aout, .inl (G.2.2.2.2, 1, .inr (.inl ((fun _ => 0))))), (x0, .inr (11, ofL 17 Fx0)), (x28, .inr (10, ofL 7 Fx28)), (x31, .inr (1, ofL 10 Fx31)), (x3, .inr (7, ofL 5 Fx3)), (x29, .inr (4, ofL 3 Fx29)), (m0, .inr (12, ofL 88 (updV Fm0 0 (.int 0))))] H := hP
      have hD : va_D A [(aout, .inl (G.2.2.2.2, 1, .inr (.inl ((fun _ => 0))))), (x0, .inr (11, ofL 17 Fx0)), (x28, .inr (10, ofL 7 Fx28)), (x31, .inr (1, ofL 10 Fx31)), (x3, .inr (7, ofL 5 Fx3)), (x29, .inr (4, ofL 3 Fx29)), (m0, .inr (12, ofL 88 (updV Fm0 0 (.int 0))))] := hD
      refine lv_istore (lv' := [(6, .int (-1)), (5, .int 1), (0, .ref b), (1, .ref x0), (2, .ref m0), (3, .ref aout), (4, .int 0)]) hx hb dL_law_2140 hl (by decide) rfl (fun ls hl => ?_)
      refine lv_aload_n hx hb dL_law_2142 rfl (lv_at hl 4 rfl) ?_
      refine k_callVi (wr := [(aout, .inl (G.2.2.2.2, 1, .inr (.inl ((fun _ => 0))))), (x0, .inr (11, ofL 17 Fx0)), (x28, .inr (10, ofL 7 Fx28)), (x31, .inr (1, ofL 10 Fx31)), (x3, .inr (7, ofL 5 Fx3)), (x29, .inr (4, ofL 3 Fx29))]) (rest := []) li_L_118 C (c_X12_thrown l G H.size m0 (updV Fm0 0 (.int 0)) 0 rfl) (kR rfl) hP hD hS [6] [0, 1, 2, 3, 4, 5] rfl rfl rfl rfl (by decide) 0 12 rfl rfl rfl hl.1 rfl (Nat.le_of_ble_eq_true rfl) dL_law_2143 (fun rr28 uu29 H locs hw27 hP hD hS => ?_)
      obtain rfl : rr28 = 0 := hw27
      have hP : va_P G.1 vwCl [(aout, .inl (G.2.2.2.2, 1, .inr (.inl ((fun _ => 0))))), (x0, .inr (11, ofL 17 Fx0)), (x28, .inr (10, ofL 7 Fx28)), (x31, .inr (1, ofL 10 Fx31)), (x3, .inr (7, ofL 5 Fx3)), (x29, .inr (4, ofL 3 Fx29)), (m0, .inr (12, ofL 88 (updV Fm0 0 (.int 0))))] H := hP
      have hD : va_D A [(aout, .inl (G.2.2.2.2, 1, .inr (.inl ((fun _ => 0))))), (x0, .inr (11, ofL 17 Fx0)), (x28, .inr (10, ofL 7 Fx28)), (x31, .inr (1, ofL 10 Fx31)), (x3, .inr (7, ofL 5 Fx3)), (x29, .inr (4, ofL 3 Fx29)), (m0, .inr (12, ofL 88 (updV Fm0 0 (.int 0))))] := hD
      refine lv_iload hx hb dL_law_2146 (lv_at hl 1 rfl) ?_
      refine lv_icmp_eq (x := 0) (y := 1) (tgt := 2153) hx hb dL_law_2148 (by decide) (fun c_30 => ?_) (fun c_30 => ?_)
      · exact absurd c_30 (by decide)
      refine lv_iconst (v := 0) hx hb dL_law_2151 (by decide) ?_
      exfalso
      have e9_0 : (0 : Int32).toInt = 0 := by decide
      have e9_1 : (1 : Int32).toInt = 1 := by decide
      simp only [Int32.lt_iff_toInt_lt, Int32.le_iff_toInt_le] at c_4 c_15 c_16
      omega
  ·
    have hP : va_P G.1 vwCl [(m0, .inr (12, ofL 88 Fm0)), (m12, .inl (G.2.1, 48, .inl (fun _ => 0))), (m42, .inl (G.2.1, 48, .inl (fun _ => 0))), (aout, .inl (G.2.2.2.2, 1, .inr (.inl ((fun _ => 0))))), (x0, .inr (11, ofL 17 Fx0)), (x28, .inr (10, ofL 7 Fx28)), (x31, .inr (1, ofL 10 Fx31)), (x3, .inr (7, ofL 5 Fx3)), (x29, .inr (4, ofL 3 Fx29))] H := hP
    have hD : va_D A [(m0, .inr (12, ofL 88 Fm0)), (m12, .inl (G.2.1, 48, .inl (fun _ => 0))), (m42, .inl (G.2.1, 48, .inl (fun _ => 0))), (aout, .inl (G.2.2.2.2, 1, .inr (.inl ((fun _ => 0))))), (x0, .inr (11, ofL 17 Fx0)), (x28, .inr (10, ofL 7 Fx28)), (x31, .inr (1, ofL 10 Fx31)), (x3, .inr (7, ofL 5 Fx3)), (x29, .inr (4, ofL 3 Fx29))] := hD
    refine lv_istore (lv' := [(5, .int 1), (0, .ref b), (1, .ref x0), (2, .ref m0), (3, .ref aout), (4, .int 0)]) hx hb dL_law_2128 hl (by decide) rfl (fun ls hl => ?_)
    refine lv_aload_n hx hb dL_law_2130 rfl (lv_at hl 3 rfl) ?_
    refine lv_aload_n hx hb dL_law_2131 rfl (lv_at hl 1 rfl) ?_
    refine lv_iload hx hb dL_law_2132 (lv_at hl 5 rfl) ?_
    refine lv_iconst (v := 1) hx hb dL_law_2134 (by decide) ?_
    refine lv_iadd hx hb dL_law_2135 ?_
    refine k_eqi (y := 1) (by decide) ?_
    refine va_sld hx hb hX hbl hbA hS (k_in (by decide)) dL_law_2136 ?_
    refine k_eqi (y := v1) hv1 ?_
    refine k_callVi (wr := [(aout, .inl (G.2.2.2.2, 1, .inr (.inl ((fun _ => 0))))), (x0, .inr (11, ofL 17 Fx0)), (x28, .inr (10, ofL 7 Fx28)), (x31, .inr (1, ofL 10 Fx31)), (x3, .inr (7, ofL 5 Fx3)), (x29, .inr (4, ofL 3 Fx29))]) (rest := []) li_L_235 C (c_X12_pair l G H.size m0 v1 Fm0 m12 m42 (fun _ => 0) (fun _ => 0) e_m0_1 e_m0_16 e_m0_72) (kR rfl) hP hD hS [0, 1, 2] [3, 4, 5, 6, 7, 8] rfl rfl rfl rfl (by decide) 0 12 rfl rfl rfl hl.1 rfl (Nat.le_of_ble_eq_true rfl) dL_law_2137 (fun rr32 uu33 H locs hw31 hP hD hS => ?_)
    rcases hw31 with ⟨rfl, rfl, c_34⟩ | ⟨rfl, rfl, c_35, c_36⟩ | ⟨rfl, rfl, c_37, c_38⟩
    ·
      have hP : va_P G.1 vwCl [(aout, .inl (G.2.2.2.2, 1, .inr (.inl ((fun _ => 0))))), (x0, .inr (11, ofL 17 Fx0)), (x28, .inr (10, ofL 7 Fx28)), (x31, .inr (1, ofL 10 Fx31)), (x3, .inr (7, ofL 5 Fx3)), (x29, .inr (4, ofL 3 Fx29)), (m0, .inr (12, ofL 88 (updV (updV Fm0 0 (.int 0)) 0 (.int 1))))] H := hP
      have hD : va_D A [(aout, .inl (G.2.2.2.2, 1, .inr (.inl ((fun _ => 0))))), (x0, .inr (11, ofL 17 Fx0)), (x28, .inr (10, ofL 7 Fx28)), (x31, .inr (1, ofL 10 Fx31)), (x3, .inr (7, ofL 5 Fx3)), (x29, .inr (4, ofL 3 Fx29)), (m0, .inr (12, ofL 88 (updV (updV Fm0 0 (.int 0)) 0 (.int 1))))] := hD
      refine lv_istore (lv' := [(6, .int 0), (5, .int 1), (0, .ref b), (1, .ref x0), (2, .ref m0), (3, .ref aout), (4, .int 0)]) hx hb dL_law_2140 hl (by decide) rfl (fun ls hl => ?_)
      refine lv_aload_n hx hb dL_law_2142 rfl (lv_at hl 4 rfl) ?_
      refine k_callVi (wr := [(aout, .inl (G.2.2.2.2, 1, .inr (.inl ((fun _ => 0))))), (x0, .inr (11, ofL 17 Fx0)), (x28, .inr (10, ofL 7 Fx28)), (x31, .inr (1, ofL 10 Fx31)), (x3, .inr (7, ofL 5 Fx3)), (x29, .inr (4, ofL 3 Fx29))]) (rest := []) li_L_118 C (c_X12_thrown l G H.size m0 (updV (updV Fm0 0 (.int 0)) 0 (.int 1)) 1 rfl) (kR rfl) hP hD hS [6] [0, 1, 2, 3, 4, 5] rfl rfl rfl rfl (by decide) 0 12 rfl rfl rfl hl.1 rfl (Nat.le_of_ble_eq_true rfl) dL_law_2143 (fun rr40 uu41 H locs hw39 hP hD hS => ?_)
      obtain rfl : rr40 = 1 := hw39
      have hP : va_P G.1 vwCl [(aout, .inl (G.2.2.2.2, 1, .inr (.inl ((fun _ => 0))))), (x0, .inr (11, ofL 17 Fx0)), (x28, .inr (10, ofL 7 Fx28)), (x31, .inr (1, ofL 10 Fx31)), (x3, .inr (7, ofL 5 Fx3)), (x29, .inr (4, ofL 3 Fx29)), (m0, .inr (12, ofL 88 (updV (updV Fm0 0 (.int 0)) 0 (.int 1))))] H := hP
      have hD : va_D A [(aout, .inl (G.2.2.2.2, 1, .inr (.inl ((fun _ => 0))))), (x0, .inr (11, ofL 17 Fx0)), (x28, .inr (10, ofL 7 Fx28)), (x31, .inr (1, ofL 10 Fx31)), (x3, .inr (7, ofL 5 Fx3)), (x29, .inr (4, ofL 3 Fx29)), (m0, .inr (12, ofL 88 (updV (updV Fm0 0 (.int 0)) 0 (.int 1))))] := hD
      refine lv_iload hx hb dL_law_2146 (lv_at hl 1 rfl) ?_
      refine lv_icmp_eq (x := 1) (y := 1) (tgt := 2153) hx hb dL_law_2148 (by decide) (fun c_42 => ?_) (fun c_42 => ?_)
      rotate_left
      · exact absurd (by decide) c_42
      refine lv_iload hx hb dL_law_2153 (lv_at hl 1 rfl) ?_
      refine lv_if_ne (x := 1) (tgt := 2170) hx hb dL_law_2155 (by decide) (fun c_43 => ?_) (fun c_43 => ?_)
      rotate_left
      · exact absurd c_43 (by decide)
      refine lv_goto (tgt := 2265) hx hb dL_law_2170 (by decide) ?_
      exact law_end hst C0 hA C hS (lv_sub hl [2, 6] rfl) (Nat.le_of_ble_eq_true rfl) (Nat.le_of_ble_eq_true rfl)
    ·
      have hP : va_P G.1 vwCl [(aout, .inl (G.2.2.2.2, 1, .inr (.inl ((fun _ => 0))))), (x0, .inr (11, ofL 17 Fx0)), (x28, .inr (10, ofL 7 Fx28)), (x31, .inr (1, ofL 10 Fx31)), (x3, .inr (7, ofL 5 Fx3)), (x29, .inr (4, ofL 3 Fx29)), (m0, .inr (12, ofL 88 (updV (updV Fm0 0 (.int 0)) 0 (.int 1))))] H := hP
      have hD : va_D A [(aout, .inl (G.2.2.2.2, 1, .inr (.inl ((fun _ => 0))))), (x0, .inr (11, ofL 17 Fx0)), (x28, .inr (10, ofL 7 Fx28)), (x31, .inr (1, ofL 10 Fx31)), (x3, .inr (7, ofL 5 Fx3)), (x29, .inr (4, ofL 3 Fx29)), (m0, .inr (12, ofL 88 (updV (updV Fm0 0 (.int 0)) 0 (.int 1))))] := hD
      refine lv_istore (lv' := [(6, .int 0), (5, .int 1), (0, .ref b), (1, .ref x0), (2, .ref m0), (3, .ref aout), (4, .int 0)]) hx hb dL_law_2140 hl (by decide) rfl (fun ls hl => ?_)
      refine lv_aload_n hx hb dL_law_2142 rfl (lv_at hl 4 rfl) ?_
      refine k_callVi (wr := [(aout, .inl (G.2.2.2.2, 1, .inr (.inl ((fun _ => 0))))), (x0, .inr (11, ofL 17 Fx0)), (x28, .inr (10, ofL 7 Fx28)), (x31, .inr (1, ofL 10 Fx31)), (x3, .inr (7, ofL 5 Fx3)), (x29, .inr (4, ofL 3 Fx29))]) (rest := []) li_L_118 C (c_X12_thrown l G H.size m0 (updV (updV Fm0 0 (.int 0)) 0 (.int 1)) 1 rfl) (kR rfl) hP hD hS [6] [0, 1, 2, 3, 4, 5] rfl rfl rfl rfl (by decide) 0 12 rfl rfl rfl hl.1 rfl (Nat.le_of_ble_eq_true rfl) dL_law_2143 (fun rr45 uu46 H locs hw44 hP hD hS => ?_)
      obtain rfl : rr45 = 1 := hw44
      have hP : va_P G.1 vwCl [(aout, .inl (G.2.2.2.2, 1, .inr (.inl ((fun _ => 0))))), (x0, .inr (11, ofL 17 Fx0)), (x28, .inr (10, ofL 7 Fx28)), (x31, .inr (1, ofL 10 Fx31)), (x3, .inr (7, ofL 5 Fx3)), (x29, .inr (4, ofL 3 Fx29)), (m0, .inr (12, ofL 88 (updV (updV Fm0 0 (.int 0)) 0 (.int 1))))] H := hP
      have hD : va_D A [(aout, .inl (G.2.2.2.2, 1, .inr (.inl ((fun _ => 0))))), (x0, .inr (11, ofL 17 Fx0)), (x28, .inr (10, ofL 7 Fx28)), (x31, .inr (1, ofL 10 Fx31)), (x3, .inr (7, ofL 5 Fx3)), (x29, .inr (4, ofL 3 Fx29)), (m0, .inr (12, ofL 88 (updV (updV Fm0 0 (.int 0)) 0 (.int 1))))] := hD
      refine lv_iload hx hb dL_law_2146 (lv_at hl 1 rfl) ?_
      refine lv_icmp_eq (x := 1) (y := 1) (tgt := 2153) hx hb dL_law_2148 (by decide) (fun c_47 => ?_) (fun c_47 => ?_)
      rotate_left
      · exact absurd (by decide) c_47
      refine lv_iload hx hb dL_law_2153 (lv_at hl 1 rfl) ?_
      refine lv_if_ne (x := 1) (tgt := 2170) hx hb dL_law_2155 (by decide) (fun c_48 => ?_) (fun c_48 => ?_)
      rotate_left
      · exact absurd c_48 (by decide)
      refine lv_goto (tgt := 2265) hx hb dL_law_2170 (by decide) ?_
      exact law_end hst C0 hA C hS (lv_sub hl [2, 6] rfl) (Nat.le_of_ble_eq_true rfl) (Nat.le_of_ble_eq_true rfl)
    ·
      have hP : va_P G.1 vwCl [(aout, .inl (G.2.2.2.2, 1, .inr (.inl ((fun _ => 0))))), (x0, .inr (11, ofL 17 Fx0)), (x28, .inr (10, ofL 7 Fx28)), (x31, .inr (1, ofL 10 Fx31)), (x3, .inr (7, ofL 5 Fx3)), (x29, .inr (4, ofL 3 Fx29)), (m0, .inr (12, ofL 88 (updV Fm0 0 (.int 0))))] H := hP
      have hD : va_D A [(aout, .inl (G.2.2.2.2, 1, .inr (.inl ((fun _ => 0))))), (x0, .inr (11, ofL 17 Fx0)), (x28, .inr (10, ofL 7 Fx28)), (x31, .inr (1, ofL 10 Fx31)), (x3, .inr (7, ofL 5 Fx3)), (x29, .inr (4, ofL 3 Fx29)), (m0, .inr (12, ofL 88 (updV Fm0 0 (.int 0))))] := hD
      refine lv_istore (lv' := [(6, .int (-1)), (5, .int 1), (0, .ref b), (1, .ref x0), (2, .ref m0), (3, .ref aout), (4, .int 0)]) hx hb dL_law_2140 hl (by decide) rfl (fun ls hl => ?_)
      refine lv_aload_n hx hb dL_law_2142 rfl (lv_at hl 4 rfl) ?_
      refine k_callVi (wr := [(aout, .inl (G.2.2.2.2, 1, .inr (.inl ((fun _ => 0))))), (x0, .inr (11, ofL 17 Fx0)), (x28, .inr (10, ofL 7 Fx28)), (x31, .inr (1, ofL 10 Fx31)), (x3, .inr (7, ofL 5 Fx3)), (x29, .inr (4, ofL 3 Fx29))]) (rest := []) li_L_118 C (c_X12_thrown l G H.size m0 (updV Fm0 0 (.int 0)) 0 rfl) (kR rfl) hP hD hS [6] [0, 1, 2, 3, 4, 5] rfl rfl rfl rfl (by decide) 0 12 rfl rfl rfl hl.1 rfl (Nat.le_of_ble_eq_true rfl) dL_law_2143 (fun rr50 uu51 H locs hw49 hP hD hS => ?_)
      obtain rfl : rr50 = 0 := hw49
      have hP : va_P G.1 vwCl [(aout, .inl (G.2.2.2.2, 1, .inr (.inl ((fun _ => 0))))), (x0, .inr (11, ofL 17 Fx0)), (x28, .inr (10, ofL 7 Fx28)), (x31, .inr (1, ofL 10 Fx31)), (x3, .inr (7, ofL 5 Fx3)), (x29, .inr (4, ofL 3 Fx29)), (m0, .inr (12, ofL 88 (updV Fm0 0 (.int 0))))] H := hP
      have hD : va_D A [(aout, .inl (G.2.2.2.2, 1, .inr (.inl ((fun _ => 0))))), (x0, .inr (11, ofL 17 Fx0)), (x28, .inr (10, ofL 7 Fx28)), (x31, .inr (1, ofL 10 Fx31)), (x3, .inr (7, ofL 5 Fx3)), (x29, .inr (4, ofL 3 Fx29)), (m0, .inr (12, ofL 88 (updV Fm0 0 (.int 0))))] := hD
      refine lv_iload hx hb dL_law_2146 (lv_at hl 1 rfl) ?_
      refine lv_icmp_eq (x := 0) (y := 1) (tgt := 2153) hx hb dL_law_2148 (by decide) (fun c_52 => ?_) (fun c_52 => ?_)
      · exact absurd c_52 (by decide)
      refine lv_iconst (v := 0) hx hb dL_law_2151 (by decide) ?_
      exfalso
      have e9_0 : (0 : Int32).toInt = 0 := by decide
      have e9_1 : (1 : Int32).toInt = 1 := by decide
      have e9_2 : (2 : Int32).toInt = 2 := by decide
      simp only [Int32.lt_iff_toInt_lt, Int32.le_iff_toInt_le] at c_5 c_6 c_37 c_38
      omega
  ·
    have hP : va_P G.1 vwCl [(m0, .inr (12, ofL 88 Fm0)), (m12, .inl (G.2.1, 48, .inl (fun _ => 0))), (m42, .inl (G.2.1, 48, .inl (fun _ => 0))), (aout, .inl (G.2.2.2.2, 1, .inr (.inl (vp_updL (fun _ => 0) 0 (-1))))), (x0, .inr (11, ofL 17 Fx0)), (x28, .inr (10, ofL 7 Fx28)), (x31, .inr (1, ofL 10 Fx31)), (x3, .inr (7, ofL 5 Fx3)), (x29, .inr (4, ofL 3 (updV Fx29 0 (.int 0))))] H := hP
    have hD : va_D A [(m0, .inr (12, ofL 88 Fm0)), (m12, .inl (G.2.1, 48, .inl (fun _ => 0))), (m42, .inl (G.2.1, 48, .inl (fun _ => 0))), (aout, .inl (G.2.2.2.2, 1, .inr (.inl (vp_updL (fun _ => 0) 0 (-1))))), (x0, .inr (11, ofL 17 Fx0)), (x28, .inr (10, ofL 7 Fx28)), (x31, .inr (1, ofL 10 Fx31)), (x3, .inr (7, ofL 5 Fx3)), (x29, .inr (4, ofL 3 (updV Fx29 0 (.int 0))))] := hD
    refine lv_istore (lv' := [(5, .int 0), (0, .ref b), (1, .ref x0), (2, .ref m0), (3, .ref aout), (4, .int 0)]) hx hb dL_law_2128 hl (by decide) rfl (fun ls hl => ?_)
    refine lv_aload_n hx hb dL_law_2130 rfl (lv_at hl 3 rfl) ?_
    refine lv_aload_n hx hb dL_law_2131 rfl (lv_at hl 1 rfl) ?_
    refine lv_iload hx hb dL_law_2132 (lv_at hl 5 rfl) ?_
    refine lv_iconst (v := 1) hx hb dL_law_2134 (by decide) ?_
    refine lv_iadd hx hb dL_law_2135 ?_
    refine k_eqi (y := 1) (by decide) ?_
    refine va_sld hx hb hX hbl hbA hS (k_in (by decide)) dL_law_2136 ?_
    refine k_eqi (y := v1) hv1 ?_
    refine k_callVi (wr := [(aout, .inl (G.2.2.2.2, 1, .inr (.inl (vp_updL (fun _ => 0) 0 (-1))))), (x0, .inr (11, ofL 17 Fx0)), (x28, .inr (10, ofL 7 Fx28)), (x31, .inr (1, ofL 10 Fx31)), (x3, .inr (7, ofL 5 Fx3)), (x29, .inr (4, ofL 3 (updV Fx29 0 (.int 0))))]) (rest := []) li_L_235 C (c_X12_pair l G H.size m0 v1 Fm0 m12 m42 (fun _ => 0) (fun _ => 0) e_m0_1 e_m0_16 e_m0_72) (kR rfl) hP hD hS [0, 1, 2] [3, 4, 5, 6, 7, 8] rfl rfl rfl rfl (by decide) 0 12 rfl rfl rfl hl.1 rfl (Nat.le_of_ble_eq_true rfl) dL_law_2137 (fun rr54 uu55 H locs hw53 hP hD hS => ?_)
    rcases hw53 with ⟨rfl, rfl, c_56⟩ | ⟨rfl, rfl, c_57, c_58⟩ | ⟨rfl, rfl, c_59, c_60⟩
    ·
      have hP : va_P G.1 vwCl [(aout, .inl (G.2.2.2.2, 1, .inr (.inl (vp_updL (fun _ => 0) 0 (-1))))), (x0, .inr (11, ofL 17 Fx0)), (x28, .inr (10, ofL 7 Fx28)), (x31, .inr (1, ofL 10 Fx31)), (x3, .inr (7, ofL 5 Fx3)), (x29, .inr (4, ofL 3 (updV Fx29 0 (.int 0)))), (m0, .inr (12, ofL 88 (updV (updV Fm0 0 (.int 0)) 0 (.int 1))))] H := hP
      have hD : va_D A [(aout, .inl (G.2.2.2.2, 1, .inr (.inl (vp_updL (fun _ => 0) 0 (-1))))), (x0, .inr (11, ofL 17 Fx0)), (x28, .inr (10, ofL 7 Fx28)), (x31, .inr (1, ofL 10 Fx31)), (x3, .inr (7, ofL 5 Fx3)), (x29, .inr (4, ofL 3 (updV Fx29 0 (.int 0)))), (m0, .inr (12, ofL 88 (updV (updV Fm0 0 (.int 0)) 0 (.int 1))))] := hD
      refine lv_istore (lv' := [(6, .int 0), (5, .int 0), (0, .ref b), (1, .ref x0), (2, .ref m0), (3, .ref aout), (4, .int 0)]) hx hb dL_law_2140 hl (by decide) rfl (fun ls hl => ?_)
      refine lv_aload_n hx hb dL_law_2142 rfl (lv_at hl 4 rfl) ?_
      refine k_callVi (wr := [(aout, .inl (G.2.2.2.2, 1, .inr (.inl (vp_updL (fun _ => 0) 0 (-1))))), (x0, .inr (11, ofL 17 Fx0)), (x28, .inr (10, ofL 7 Fx28)), (x31, .inr (1, ofL 10 Fx31)), (x3, .inr (7, ofL 5 Fx3)), (x29, .inr (4, ofL 3 (updV Fx29 0 (.int 0))))]) (rest := []) li_L_118 C (c_X12_thrown l G H.size m0 (updV (updV Fm0 0 (.int 0)) 0 (.int 1)) 1 rfl) (kR rfl) hP hD hS [6] [0, 1, 2, 3, 4, 5] rfl rfl rfl rfl (by decide) 0 12 rfl rfl rfl hl.1 rfl (Nat.le_of_ble_eq_true rfl) dL_law_2143 (fun rr62 uu63 H locs hw61 hP hD hS => ?_)
      obtain rfl : rr62 = 1 := hw61
      have hP : va_P G.1 vwCl [(aout, .inl (G.2.2.2.2, 1, .inr (.inl (vp_updL (fun _ => 0) 0 (-1))))), (x0, .inr (11, ofL 17 Fx0)), (x28, .inr (10, ofL 7 Fx28)), (x31, .inr (1, ofL 10 Fx31)), (x3, .inr (7, ofL 5 Fx3)), (x29, .inr (4, ofL 3 (updV Fx29 0 (.int 0)))), (m0, .inr (12, ofL 88 (updV (updV Fm0 0 (.int 0)) 0 (.int 1))))] H := hP
      have hD : va_D A [(aout, .inl (G.2.2.2.2, 1, .inr (.inl (vp_updL (fun _ => 0) 0 (-1))))), (x0, .inr (11, ofL 17 Fx0)), (x28, .inr (10, ofL 7 Fx28)), (x31, .inr (1, ofL 10 Fx31)), (x3, .inr (7, ofL 5 Fx3)), (x29, .inr (4, ofL 3 (updV Fx29 0 (.int 0)))), (m0, .inr (12, ofL 88 (updV (updV Fm0 0 (.int 0)) 0 (.int 1))))] := hD
      refine lv_iload hx hb dL_law_2146 (lv_at hl 1 rfl) ?_
      refine lv_icmp_eq (x := 1) (y := 0) (tgt := 2153) hx hb dL_law_2148 (by decide) (fun c_64 => ?_) (fun c_64 => ?_)
      · exact absurd c_64 (by decide)
      refine lv_iconst (v := 0) hx hb dL_law_2151 (by decide) ?_
      exfalso
      have e9_0 : (0 : Int32).toInt = 0 := by decide
      have e9_2 : (2 : Int32).toInt = 2 := by decide
      simp only [Int32.lt_iff_toInt_lt, Int32.le_iff_toInt_le] at c_7 c_8 c_56
      omega
    ·
      have hP : va_P G.1 vwCl [(aout, .inl (G.2.2.2.2, 1, .inr (.inl (vp_updL (fun _ => 0) 0 (-1))))), (x0, .inr (11, ofL 17 Fx0)), (x28, .inr (10, ofL 7 Fx28)), (x31, .inr (1, ofL 10 Fx31)), (x3, .inr (7, ofL 5 Fx3)), (x29, .inr (4, ofL 3 (updV Fx29 0 (.int 0)))), (m0, .inr (12, ofL 88 (updV (updV Fm0 0 (.int 0)) 0 (.int 1))))] H := hP
      have hD : va_D A [(aout, .inl (G.2.2.2.2, 1, .inr (.inl (vp_updL (fun _ => 0) 0 (-1))))), (x0, .inr (11, ofL 17 Fx0)), (x28, .inr (10, ofL 7 Fx28)), (x31, .inr (1, ofL 10 Fx31)), (x3, .inr (7, ofL 5 Fx3)), (x29, .inr (4, ofL 3 (updV Fx29 0 (.int 0)))), (m0, .inr (12, ofL 88 (updV (updV Fm0 0 (.int 0)) 0 (.int 1))))] := hD
      refine lv_istore (lv' := [(6, .int 0), (5, .int 0), (0, .ref b), (1, .ref x0), (2, .ref m0), (3, .ref aout), (4, .int 0)]) hx hb dL_law_2140 hl (by decide) rfl (fun ls hl => ?_)
      refine lv_aload_n hx hb dL_law_2142 rfl (lv_at hl 4 rfl) ?_
      refine k_callVi (wr := [(aout, .inl (G.2.2.2.2, 1, .inr (.inl (vp_updL (fun _ => 0) 0 (-1))))), (x0, .inr (11, ofL 17 Fx0)), (x28, .inr (10, ofL 7 Fx28)), (x31, .inr (1, ofL 10 Fx31)), (x3, .inr (7, ofL 5 Fx3)), (x29, .inr (4, ofL 3 (updV Fx29 0 (.int 0))))]) (rest := []) li_L_118 C (c_X12_thrown l G H.size m0 (updV (updV Fm0 0 (.int 0)) 0 (.int 1)) 1 rfl) (kR rfl) hP hD hS [6] [0, 1, 2, 3, 4, 5] rfl rfl rfl rfl (by decide) 0 12 rfl rfl rfl hl.1 rfl (Nat.le_of_ble_eq_true rfl) dL_law_2143 (fun rr66 uu67 H locs hw65 hP hD hS => ?_)
      obtain rfl : rr66 = 1 := hw65
      have hP : va_P G.1 vwCl [(aout, .inl (G.2.2.2.2, 1, .inr (.inl (vp_updL (fun _ => 0) 0 (-1))))), (x0, .inr (11, ofL 17 Fx0)), (x28, .inr (10, ofL 7 Fx28)), (x31, .inr (1, ofL 10 Fx31)), (x3, .inr (7, ofL 5 Fx3)), (x29, .inr (4, ofL 3 (updV Fx29 0 (.int 0)))), (m0, .inr (12, ofL 88 (updV (updV Fm0 0 (.int 0)) 0 (.int 1))))] H := hP
      have hD : va_D A [(aout, .inl (G.2.2.2.2, 1, .inr (.inl (vp_updL (fun _ => 0) 0 (-1))))), (x0, .inr (11, ofL 17 Fx0)), (x28, .inr (10, ofL 7 Fx28)), (x31, .inr (1, ofL 10 Fx31)), (x3, .inr (7, ofL 5 Fx3)), (x29, .inr (4, ofL 3 (updV Fx29 0 (.int 0)))), (m0, .inr (12, ofL 88 (updV (updV Fm0 0 (.int 0)) 0 (.int 1))))] := hD
      refine lv_iload hx hb dL_law_2146 (lv_at hl 1 rfl) ?_
      refine lv_icmp_eq (x := 1) (y := 0) (tgt := 2153) hx hb dL_law_2148 (by decide) (fun c_68 => ?_) (fun c_68 => ?_)
      · exact absurd c_68 (by decide)
      refine lv_iconst (v := 0) hx hb dL_law_2151 (by decide) ?_
      exfalso
      have e9_0 : (0 : Int32).toInt = 0 := by decide
      have e9_1 : (1 : Int32).toInt = 1 := by decide
      have e9_2 : (2 : Int32).toInt = 2 := by decide
      simp only [Int32.lt_iff_toInt_lt, Int32.le_iff_toInt_le] at c_7 c_8 c_57 c_58
      omega
    ·
      have hP : va_P G.1 vwCl [(aout, .inl (G.2.2.2.2, 1, .inr (.inl (vp_updL (fun _ => 0) 0 (-1))))), (x0, .inr (11, ofL 17 Fx0)), (x28, .inr (10, ofL 7 Fx28)), (x31, .inr (1, ofL 10 Fx31)), (x3, .inr (7, ofL 5 Fx3)), (x29, .inr (4, ofL 3 (updV Fx29 0 (.int 0)))), (m0, .inr (12, ofL 88 (updV Fm0 0 (.int 0))))] H := hP
      have hD : va_D A [(aout, .inl (G.2.2.2.2, 1, .inr (.inl (vp_updL (fun _ => 0) 0 (-1))))), (x0, .inr (11, ofL 17 Fx0)), (x28, .inr (10, ofL 7 Fx28)), (x31, .inr (1, ofL 10 Fx31)), (x3, .inr (7, ofL 5 Fx3)), (x29, .inr (4, ofL 3 (updV Fx29 0 (.int 0)))), (m0, .inr (12, ofL 88 (updV Fm0 0 (.int 0))))] := hD
      refine lv_istore (lv' := [(6, .int (-1)), (5, .int 0), (0, .ref b), (1, .ref x0), (2, .ref m0), (3, .ref aout), (4, .int 0)]) hx hb dL_law_2140 hl (by decide) rfl (fun ls hl => ?_)
      refine lv_aload_n hx hb dL_law_2142 rfl (lv_at hl 4 rfl) ?_
      refine k_callVi (wr := [(aout, .inl (G.2.2.2.2, 1, .inr (.inl (vp_updL (fun _ => 0) 0 (-1))))), (x0, .inr (11, ofL 17 Fx0)), (x28, .inr (10, ofL 7 Fx28)), (x31, .inr (1, ofL 10 Fx31)), (x3, .inr (7, ofL 5 Fx3)), (x29, .inr (4, ofL 3 (updV Fx29 0 (.int 0))))]) (rest := []) li_L_118 C (c_X12_thrown l G H.size m0 (updV Fm0 0 (.int 0)) 0 rfl) (kR rfl) hP hD hS [6] [0, 1, 2, 3, 4, 5] rfl rfl rfl rfl (by decide) 0 12 rfl rfl rfl hl.1 rfl (Nat.le_of_ble_eq_true rfl) dL_law_2143 (fun rr70 uu71 H locs hw69 hP hD hS => ?_)
      obtain rfl : rr70 = 0 := hw69
      have hP : va_P G.1 vwCl [(aout, .inl (G.2.2.2.2, 1, .inr (.inl (vp_updL (fun _ => 0) 0 (-1))))), (x0, .inr (11, ofL 17 Fx0)), (x28, .inr (10, ofL 7 Fx28)), (x31, .inr (1, ofL 10 Fx31)), (x3, .inr (7, ofL 5 Fx3)), (x29, .inr (4, ofL 3 (updV Fx29 0 (.int 0)))), (m0, .inr (12, ofL 88 (updV Fm0 0 (.int 0))))] H := hP
      have hD : va_D A [(aout, .inl (G.2.2.2.2, 1, .inr (.inl (vp_updL (fun _ => 0) 0 (-1))))), (x0, .inr (11, ofL 17 Fx0)), (x28, .inr (10, ofL 7 Fx28)), (x31, .inr (1, ofL 10 Fx31)), (x3, .inr (7, ofL 5 Fx3)), (x29, .inr (4, ofL 3 (updV Fx29 0 (.int 0)))), (m0, .inr (12, ofL 88 (updV Fm0 0 (.int 0))))] := hD
      refine lv_iload hx hb dL_law_2146 (lv_at hl 1 rfl) ?_
      refine lv_icmp_eq (x := 0) (y := 0) (tgt := 2153) hx hb dL_law_2148 (by decide) (fun c_72 => ?_) (fun c_72 => ?_)
      rotate_left
      · exact absurd (by decide) c_72
      refine lv_iload hx hb dL_law_2153 (lv_at hl 1 rfl) ?_
      refine lv_if_ne (x := 0) (tgt := 2170) hx hb dL_law_2155 (by decide) (fun c_73 => ?_) (fun c_73 => ?_)
      · exact absurd (by decide) c_73
      refine lv_aload_n hx hb dL_law_2158 rfl (lv_at hl 5 rfl) ?_
      refine lv_iconst (v := 0) hx hb dL_law_2159 (by decide) ?_
      refine k_lald C hP 0 rfl (k_in (by decide)) dL_law_2160 ?_
      refine k_eql (y := -1) rfl ?_
      refine lv_iload hx hb dL_law_2161 (lv_at hl 0 rfl) ?_
      refine lv_i2l (v := -1) hx hb dL_law_2163 (by decide) ?_
      refine W.lcmp hx hb dL_law_2164 ?_
      refine k_eqi (y := 0) (by decide) ?_
      refine lv_if_eq (x := 0) (tgt := 2170) hx hb dL_law_2165 (by decide) (fun c_74 => ?_) (fun c_74 => ?_)
      rotate_left
      · exact absurd (by decide) c_74
      refine lv_goto (tgt := 2265) hx hb dL_law_2170 (by decide) ?_
      exact law_end hst C0 hA C hS (lv_sub hl [2, 6] rfl) (Nat.le_of_ble_eq_true rfl) (Nat.le_of_ble_eq_true rfl)
set_option maxHeartbeats 4000000 in
set_option maxRecDepth 100000 in
theorem law_36 {p : Program} {e : Env} {s : State} {m : MethodId} {below : List Frame} {meth : Method} {c : Code} {l : Launch} (hst : l.stackTraces = false) {b : Nat} {xs : Nat → Int32} {G : kG} {A : Nat → Prop} (C0 : lw_At p s m meth c b 6 xs) (hA : A = fun q : Nat => s.heap.size ≤ q) (C : kC G p s m c cL_law 8 RL A) {v1 : Int32} (hv1 : xs 1 = v1) {v2 : Int32} (hv2 : xs 2 = v2) {v3 : Int32} (hv3 : xs 3 = v3) {v4 : Int32} (hv4 : xs 4 = v4) {v5 : Int32} (hv5 : xs 5 = v5) {x0 : Nat} {Fx0 : Nat → Value} {x28 : Nat} {x3 : Nat} {Fx3 : Nat → Value} {Fx28 : Nat → Value} {x31 : Nat} {x29 : Nat} {Fx29 : Nat → Value} {Fx31 : Nat → Value} {m0 : Nat} {Fm0 : Nat → Value} {m12 : Nat} {m42 : Nat} {aout : Nat} (e_x0_9 : Fx0 9 = .ref x28) (e_x3_2 : Fx3 2 = .int 0) (e_x28_0 : Fx28 0 = .ref x31) (e_x28_2 : Fx28 2 = .ref x29) (e_x31_7 : Fx31 7 = .ref x3) (e_m0_1 : Fm0 1 = .int 0) (e_m0_16 : Fm0 16 = .ref m12) (e_m0_72 : Fm0 72 = .ref m42) {H : Heap} {locs : List Loc} {ls : Array Slot} (hP : va_P G.1 vwCl [(x0, .inr (11, ofL 17 Fx0)), (x3, .inr (7, ofL 5 Fx3)), (x28, .inr (10, ofL 7 Fx28)), (x29, .inr (4, ofL 3 Fx29)), (x31, .inr (1, ofL 10 Fx31)), (m0, .inr (12, ofL 88 Fm0)), (m12, .inl (G.2.1, 48, .inl (fun _ => 0))), (m42, .inl (G.2.1, 48, .inl (fun _ => 0))), (aout, .inl (G.2.2.2.2, 1, .inr (.inl (fun _ => 0))))] H) (hD : va_D A [(x0, .inr (11, ofL 17 Fx0)), (x3, .inr (7, ofL 5 Fx3)), (x28, .inr (10, ofL 7 Fx28)), (x29, .inr (4, ofL 3 Fx29)), (x31, .inr (1, ofL 10 Fx31)), (m0, .inr (12, ofL 88 Fm0)), (m12, .inl (G.2.1, 48, .inl (fun _ => 0))), (m42, .inl (G.2.1, 48, .inl (fun _ => 0))), (aout, .inl (G.2.2.2.2, 1, .inr (.inl (fun _ => 0))))]) (hS : va_S A s.heap H locs) (hl : lv_has ls 8 [(0, .ref b), (1, .ref x0), (2, .ref m0), (3, .ref aout), (4, .int 0)]) :
    W p l e room_1 s m #[Value.ref b] below meth c H locs 1000 20000 (lw_Z below #[Value.ref b] s) (F0 m 2173 ls []) := by
  obtain ⟨hx, hb, hr, -, -, -, hX, hbl, hlocks, -⟩ := id C0
  have hbA : ¬ A b := by rw [hA]; exact Nat.not_le.mpr hbl
  refine lv_aload_n hx hb dL_law_2173 rfl (lv_at hl 1 rfl) ?_
  refine lv_aload_n hx hb dL_law_2174 rfl (lv_at hl 0 rfl) ?_
  refine lv_iload hx hb dL_law_2175 (lv_at hl 4 rfl) ?_
  refine lv_iconst (v := 1) hx hb dL_law_2177 (by decide) ?_
  refine lv_iadd hx hb dL_law_2178 ?_
  refine k_eqi (y := 1) (by decide) ?_
  refine va_sld hx hb hX hbl hbA hS (k_in (by decide)) dL_law_2179 ?_
  refine k_eqi (y := v1) hv1 ?_
  refine lv_aload_n hx hb dL_law_2180 rfl (lv_at hl 0 rfl) ?_
  refine lv_iload hx hb dL_law_2181 (lv_at hl 4 rfl) ?_
  refine lv_iconst (v := 2) hx hb dL_law_2183 (by decide) ?_
  refine lv_iadd hx hb dL_law_2184 ?_
  refine k_eqi (y := 2) (by decide) ?_
  refine va_sld hx hb hX hbl hbA hS (k_in (by decide)) dL_law_2185 ?_
  refine k_eqi (y := v2) hv2 ?_
  refine lv_aload_n hx hb dL_law_2186 rfl (lv_at hl 3 rfl) ?_
  refine k_callHi (wr := [(m0, .inr (12, ofL 88 Fm0)), (m12, .inl (G.2.1, 48, .inl (fun _ => 0))), (m42, .inl (G.2.1, 48, .inl (fun _ => 0)))]) (rest := []) li_L_236 C (c_L_pause l hst G H.size x0 v1 v2 aout Fx0 x28 Fx28 x31 x29 Fx31 x3 Fx3 Fx29 (fun _ => 0) e_x0_9 e_x28_0 e_x28_2 e_x31_7 e_x3_2) (kR rfl) hP hD hS [0, 2, 4, 1, 3, 8] [5, 6, 7] rfl rfl rfl rfl (by decide) rfl hl.1 rfl (Nat.le_of_ble_eq_true rfl) dL_law_2187 (fun rr2 uu3 H locs hw1 hP hD hS => ?_)
  rcases hw1 with ⟨rfl, rfl, c_4⟩ | ⟨rfl, rfl, c_5, c_6⟩ | ⟨rfl, rfl, c_7, c_8, c_9⟩ | ⟨rfl, rfl, c_10, c_11, c_12, c_13⟩ | ⟨rfl, rfl, c_14, c_15, c_16, c_17⟩
  ·
    have hP : va_P G.1 vwCl [(m0, .inr (12, ofL 88 Fm0)), (m12, .inl (G.2.1, 48, .inl (fun _ => 0))), (m42, .inl (G.2.1, 48, .inl (fun _ => 0))), (aout, .inl (G.2.2.2.2, 1, .inr (.inl ((fun _ => 0))))), (x0, .inr (11, ofL 17 Fx0)), (x28, .inr (10, ofL 7 Fx28)), (x31, .inr (1, ofL 10 Fx31)), (x3, .inr (7, ofL 5 Fx3)), (x29, .inr (4, ofL 3 Fx29))] H := hP
    have hD : va_D A [(m0, .inr (12, ofL 88 Fm0)), (m12, .inl (G.2.1, 48, .inl (fun _ => 0))), (m42, .inl (G.2.1, 48, .inl (fun _ => 0))), (aout, .inl (G.2.2.2.2, 1, .inr (.inl ((fun _ => 0))))), (x0, .inr (11, ofL 17 Fx0)), (x28, .inr (10, ofL 7 Fx28)), (x31, .inr (1, ofL 10 Fx31)), (x3, .inr (7, ofL 5 Fx3)), (x29, .inr (4, ofL 3 Fx29))] := hD
    refine lv_istore (lv' := [(5, .int 1), (0, .ref b), (1, .ref x0), (2, .ref m0), (3, .ref aout), (4, .int 0)]) hx hb dL_law_2190 hl (by decide) rfl (fun ls hl => ?_)
    refine lv_aload_n hx hb dL_law_2192 rfl (lv_at hl 3 rfl) ?_
    refine lv_aload_n hx hb dL_law_2193 rfl (lv_at hl 1 rfl) ?_
    refine lv_iload hx hb dL_law_2194 (lv_at hl 5 rfl) ?_
    refine lv_iconst (v := 1) hx hb dL_law_2196 (by decide) ?_
    refine lv_iadd hx hb dL_law_2197 ?_
    refine k_eqi (y := 1) (by decide) ?_
    refine va_sld hx hb hX hbl hbA hS (k_in (by decide)) dL_law_2198 ?_
    refine k_eqi (y := v1) hv1 ?_
    refine lv_aload_n hx hb dL_law_2199 rfl (lv_at hl 1 rfl) ?_
    refine lv_iload hx hb dL_law_2200 (lv_at hl 5 rfl) ?_
    refine lv_iconst (v := 2) hx hb dL_law_2202 (by decide) ?_
    refine lv_iadd hx hb dL_law_2203 ?_
    refine k_eqi (y := 2) (by decide) ?_
    refine va_sld hx hb hX hbl hbA hS (k_in (by decide)) dL_law_2204 ?_
    refine k_eqi (y := v2) hv2 ?_
    refine k_callVi (wr := [(aout, .inl (G.2.2.2.2, 1, .inr (.inl ((fun _ => 0))))), (x0, .inr (11, ofL 17 Fx0)), (x28, .inr (10, ofL 7 Fx28)), (x31, .inr (1, ofL 10 Fx31)), (x3, .inr (7, ofL 5 Fx3)), (x29, .inr (4, ofL 3 Fx29))]) (rest := []) li_L_238 C (c_X12_pause l G H.size m0 v1 v2 Fm0 m12 m42 (fun _ => 0) (fun _ => 0) e_m0_1 e_m0_16 e_m0_72) (kR rfl) hP hD hS [0, 1, 2] [3, 4, 5, 6, 7, 8] rfl rfl rfl rfl (by decide) 0 12 rfl rfl rfl hl.1 rfl (Nat.le_of_ble_eq_true rfl) dL_law_2205 (fun rr19 uu20 H locs hw18 hP hD hS => ?_)
    rcases hw18 with ⟨rfl, rfl, c_21⟩ | ⟨rfl, rfl, c_22, c_23⟩ | ⟨rfl, rfl, c_24, c_25, c_26⟩ | ⟨rfl, rfl, c_27, c_28, c_29, c_30⟩ | ⟨rfl, rfl, c_31, c_32, c_33, c_34⟩
    ·
      have hP : va_P G.1 vwCl [(aout, .inl (G.2.2.2.2, 1, .inr (.inl ((fun _ => 0))))), (x0, .inr (11, ofL 17 Fx0)), (x28, .inr (10, ofL 7 Fx28)), (x31, .inr (1, ofL 10 Fx31)), (x3, .inr (7, ofL 5 Fx3)), (x29, .inr (4, ofL 3 Fx29)), (m0, .inr (12, ofL 88 (updV (updV Fm0 0 (.int 0)) 0 (.int 1))))] H := hP
      have hD : va_D A [(aout, .inl (G.2.2.2.2, 1, .inr (.inl ((fun _ => 0))))), (x0, .inr (11, ofL 17 Fx0)), (x28, .inr (10, ofL 7 Fx28)), (x31, .inr (1, ofL 10 Fx31)), (x3, .inr (7, ofL 5 Fx3)), (x29, .inr (4, ofL 3 Fx29)), (m0, .inr (12, ofL 88 (updV (updV Fm0 0 (.int 0)) 0 (.int 1))))] := hD
      refine lv_istore (lv' := [(6, .int 0), (5, .int 1), (0, .ref b), (1, .ref x0), (2, .ref m0), (3, .ref aout), (4, .int 0)]) hx hb dL_law_2208 hl (by decide) rfl (fun ls hl => ?_)
      refine lv_aload_n hx hb dL_law_2210 rfl (lv_at hl 4 rfl) ?_
      refine k_callVi (wr := [(aout, .inl (G.2.2.2.2, 1, .inr (.inl ((fun _ => 0))))), (x0, .inr (11, ofL 17 Fx0)), (x28, .inr (10, ofL 7 Fx28)), (x31, .inr (1, ofL 10 Fx31)), (x3, .inr (7, ofL 5 Fx3)), (x29, .inr (4, ofL 3 Fx29))]) (rest := []) li_L_118 C (c_X12_thrown l G H.size m0 (updV (updV Fm0 0 (.int 0)) 0 (.int 1)) 1 rfl) (kR rfl) hP hD hS [6] [0, 1, 2, 3, 4, 5] rfl rfl rfl rfl (by decide) 0 12 rfl rfl rfl hl.1 rfl (Nat.le_of_ble_eq_true rfl) dL_law_2211 (fun rr36 uu37 H locs hw35 hP hD hS => ?_)
      obtain rfl : rr36 = 1 := hw35
      have hP : va_P G.1 vwCl [(aout, .inl (G.2.2.2.2, 1, .inr (.inl ((fun _ => 0))))), (x0, .inr (11, ofL 17 Fx0)), (x28, .inr (10, ofL 7 Fx28)), (x31, .inr (1, ofL 10 Fx31)), (x3, .inr (7, ofL 5 Fx3)), (x29, .inr (4, ofL 3 Fx29)), (m0, .inr (12, ofL 88 (updV (updV Fm0 0 (.int 0)) 0 (.int 1))))] H := hP
      have hD : va_D A [(aout, .inl (G.2.2.2.2, 1, .inr (.inl ((fun _ => 0))))), (x0, .inr (11, ofL 17 Fx0)), (x28, .inr (10, ofL 7 Fx28)), (x31, .inr (1, ofL 10 Fx31)), (x3, .inr (7, ofL 5 Fx3)), (x29, .inr (4, ofL 3 Fx29)), (m0, .inr (12, ofL 88 (updV (updV Fm0 0 (.int 0)) 0 (.int 1))))] := hD
      refine lv_iload hx hb dL_law_2214 (lv_at hl 1 rfl) ?_
      refine lv_icmp_eq (x := 1) (y := 1) (tgt := 2221) hx hb dL_law_2216 (by decide) (fun c_38 => ?_) (fun c_38 => ?_)
      rotate_left
      · exact absurd (by decide) c_38
      refine lv_iload hx hb dL_law_2221 (lv_at hl 1 rfl) ?_
      refine lv_if_ne (x := 1) (tgt := 2238) hx hb dL_law_2223 (by decide) (fun c_39 => ?_) (fun c_39 => ?_)
      rotate_left
      · exact absurd c_39 (by decide)
      refine lv_goto (tgt := 2265) hx hb dL_law_2238 (by decide) ?_
      exact law_end hst C0 hA C hS (lv_sub hl [2, 6] rfl) (Nat.le_of_ble_eq_true rfl) (Nat.le_of_ble_eq_true rfl)
    ·
      have hP : va_P G.1 vwCl [(aout, .inl (G.2.2.2.2, 1, .inr (.inl ((fun _ => 0))))), (x0, .inr (11, ofL 17 Fx0)), (x28, .inr (10, ofL 7 Fx28)), (x31, .inr (1, ofL 10 Fx31)), (x3, .inr (7, ofL 5 Fx3)), (x29, .inr (4, ofL 3 Fx29)), (m0, .inr (12, ofL 88 (updV (updV Fm0 0 (.int 0)) 0 (.int 1))))] H := hP
      have hD : va_D A [(aout, .inl (G.2.2.2.2, 1, .inr (.inl ((fun _ => 0))))), (x0, .inr (11, ofL 17 Fx0)), (x28, .inr (10, ofL 7 Fx28)), (x31, .inr (1, ofL 10 Fx31)), (x3, .inr (7, ofL 5 Fx3)), (x29, .inr (4, ofL 3 Fx29)), (m0, .inr (12, ofL 88 (updV (updV Fm0 0 (.int 0)) 0 (.int 1))))] := hD
      refine lv_istore (lv' := [(6, .int 0), (5, .int 1), (0, .ref b), (1, .ref x0), (2, .ref m0), (3, .ref aout), (4, .int 0)]) hx hb dL_law_2208 hl (by decide) rfl (fun ls hl => ?_)
      refine lv_aload_n hx hb dL_law_2210 rfl (lv_at hl 4 rfl) ?_
      refine k_callVi (wr := [(aout, .inl (G.2.2.2.2, 1, .inr (.inl ((fun _ => 0))))), (x0, .inr (11, ofL 17 Fx0)), (x28, .inr (10, ofL 7 Fx28)), (x31, .inr (1, ofL 10 Fx31)), (x3, .inr (7, ofL 5 Fx3)), (x29, .inr (4, ofL 3 Fx29))]) (rest := []) li_L_118 C (c_X12_thrown l G H.size m0 (updV (updV Fm0 0 (.int 0)) 0 (.int 1)) 1 rfl) (kR rfl) hP hD hS [6] [0, 1, 2, 3, 4, 5] rfl rfl rfl rfl (by decide) 0 12 rfl rfl rfl hl.1 rfl (Nat.le_of_ble_eq_true rfl) dL_law_2211 (fun rr41 uu42 H locs hw40 hP hD hS => ?_)
      obtain rfl : rr41 = 1 := hw40
      have hP : va_P G.1 vwCl [(aout, .inl (G.2.2.2.2, 1, .inr (.inl ((fun _ => 0))))), (x0, .inr (11, ofL 17 Fx0)), (x28, .inr (10, ofL 7 Fx28)), (x31, .inr (1, ofL 10 Fx31)), (x3, .inr (7, ofL 5 Fx3)), (x29, .inr (4, ofL 3 Fx29)), (m0, .inr (12, ofL 88 (updV (updV Fm0 0 (.int 0)) 0 (.int 1))))] H := hP
      have hD : va_D A [(aout, .inl (G.2.2.2.2, 1, .inr (.inl ((fun _ => 0))))), (x0, .inr (11, ofL 17 Fx0)), (x28, .inr (10, ofL 7 Fx28)), (x31, .inr (1, ofL 10 Fx31)), (x3, .inr (7, ofL 5 Fx3)), (x29, .inr (4, ofL 3 Fx29)), (m0, .inr (12, ofL 88 (updV (updV Fm0 0 (.int 0)) 0 (.int 1))))] := hD
      refine lv_iload hx hb dL_law_2214 (lv_at hl 1 rfl) ?_
      refine lv_icmp_eq (x := 1) (y := 1) (tgt := 2221) hx hb dL_law_2216 (by decide) (fun c_43 => ?_) (fun c_43 => ?_)
      rotate_left
      · exact absurd (by decide) c_43
      refine lv_iload hx hb dL_law_2221 (lv_at hl 1 rfl) ?_
      refine lv_if_ne (x := 1) (tgt := 2238) hx hb dL_law_2223 (by decide) (fun c_44 => ?_) (fun c_44 => ?_)
      rotate_left
      · exact absurd c_44 (by decide)
      refine lv_goto (tgt := 2265) hx hb dL_law_2238 (by decide) ?_
      exact law_end hst C0 hA C hS (lv_sub hl [2, 6] rfl) (Nat.le_of_ble_eq_true rfl) (Nat.le_of_ble_eq_true rfl)
    ·
      have hP : va_P G.1 vwCl [(aout, .inl (G.2.2.2.2, 1, .inr (.inl ((fun _ => 0))))), (x0, .inr (11, ofL 17 Fx0)), (x28, .inr (10, ofL 7 Fx28)), (x31, .inr (1, ofL 10 Fx31)), (x3, .inr (7, ofL 5 Fx3)), (x29, .inr (4, ofL 3 Fx29)), (m0, .inr (12, ofL 88 (updV (updV Fm0 0 (.int 0)) 0 (.int 2))))] H := hP
      have hD : va_D A [(aout, .inl (G.2.2.2.2, 1, .inr (.inl ((fun _ => 0))))), (x0, .inr (11, ofL 17 Fx0)), (x28, .inr (10, ofL 7 Fx28)), (x31, .inr (1, ofL 10 Fx31)), (x3, .inr (7, ofL 5 Fx3)), (x29, .inr (4, ofL 3 Fx29)), (m0, .inr (12, ofL 88 (updV (updV Fm0 0 (.int 0)) 0 (.int 2))))] := hD
      refine lv_istore (lv' := [(6, .int 0), (5, .int 1), (0, .ref b), (1, .ref x0), (2, .ref m0), (3, .ref aout), (4, .int 0)]) hx hb dL_law_2208 hl (by decide) rfl (fun ls hl => ?_)
      refine lv_aload_n hx hb dL_law_2210 rfl (lv_at hl 4 rfl) ?_
      refine k_callVi (wr := [(aout, .inl (G.2.2.2.2, 1, .inr (.inl ((fun _ => 0))))), (x0, .inr (11, ofL 17 Fx0)), (x28, .inr (10, ofL 7 Fx28)), (x31, .inr (1, ofL 10 Fx31)), (x3, .inr (7, ofL 5 Fx3)), (x29, .inr (4, ofL 3 Fx29))]) (rest := []) li_L_118 C (c_X12_thrown l G H.size m0 (updV (updV Fm0 0 (.int 0)) 0 (.int 2)) 2 rfl) (kR rfl) hP hD hS [6] [0, 1, 2, 3, 4, 5] rfl rfl rfl rfl (by decide) 0 12 rfl rfl rfl hl.1 rfl (Nat.le_of_ble_eq_true rfl) dL_law_2211 (fun rr46 uu47 H locs hw45 hP hD hS => ?_)
      obtain rfl : rr46 = 2 := hw45
      have hP : va_P G.1 vwCl [(aout, .inl (G.2.2.2.2, 1, .inr (.inl ((fun _ => 0))))), (x0, .inr (11, ofL 17 Fx0)), (x28, .inr (10, ofL 7 Fx28)), (x31, .inr (1, ofL 10 Fx31)), (x3, .inr (7, ofL 5 Fx3)), (x29, .inr (4, ofL 3 Fx29)), (m0, .inr (12, ofL 88 (updV (updV Fm0 0 (.int 0)) 0 (.int 2))))] H := hP
      have hD : va_D A [(aout, .inl (G.2.2.2.2, 1, .inr (.inl ((fun _ => 0))))), (x0, .inr (11, ofL 17 Fx0)), (x28, .inr (10, ofL 7 Fx28)), (x31, .inr (1, ofL 10 Fx31)), (x3, .inr (7, ofL 5 Fx3)), (x29, .inr (4, ofL 3 Fx29)), (m0, .inr (12, ofL 88 (updV (updV Fm0 0 (.int 0)) 0 (.int 2))))] := hD
      refine lv_iload hx hb dL_law_2214 (lv_at hl 1 rfl) ?_
      refine lv_icmp_eq (x := 2) (y := 1) (tgt := 2221) hx hb dL_law_2216 (by decide) (fun c_48 => ?_) (fun c_48 => ?_)
      · exact absurd c_48 (by decide)
      refine lv_iconst (v := 0) hx hb dL_law_2219 (by decide) ?_
      exfalso
      have e9_0 : (0 : Int32).toInt = 0 := by decide
      have e9_1 : (1 : Int32).toInt = 1 := by decide
      simp only [Int32.lt_iff_toInt_lt, Int32.le_iff_toInt_le] at c_4 c_24 c_25 c_26
      omega
    ·
      have hP : va_P G.1 vwCl [(aout, .inl (G.2.2.2.2, 1, .inr (.inl ((fun _ => 0))))), (x0, .inr (11, ofL 17 Fx0)), (x28, .inr (10, ofL 7 Fx28)), (x31, .inr (1, ofL 10 Fx31)), (x3, .inr (7, ofL 5 Fx3)), (x29, .inr (4, ofL 3 Fx29)), (m0, .inr (12, ofL 88 (updV (updV Fm0 0 (.int 0)) 0 (.int 2))))] H := hP
      have hD : va_D A [(aout, .inl (G.2.2.2.2, 1, .inr (.inl ((fun _ => 0))))), (x0, .inr (11, ofL 17 Fx0)), (x28, .inr (10, ofL 7 Fx28)), (x31, .inr (1, ofL 10 Fx31)), (x3, .inr (7, ofL 5 Fx3)), (x29, .inr (4, ofL 3 Fx29)), (m0, .inr (12, ofL 88 (updV (updV Fm0 0 (.int 0)) 0 (.int 2))))] := hD
      refine lv_istore (lv' := [(6, .int 0), (5, .int 1), (0, .ref b), (1, .ref x0), (2, .ref m0), (3, .ref aout), (4, .int 0)]) hx hb dL_law_2208 hl (by decide) rfl (fun ls hl => ?_)
      refine lv_aload_n hx hb dL_law_2210 rfl (lv_at hl 4 rfl) ?_
      refine k_callVi (wr := [(aout, .inl (G.2.2.2.2, 1, .inr (.inl ((fun _ => 0))))), (x0, .inr (11, ofL 17 Fx0)), (x28, .inr (10, ofL 7 Fx28)), (x31, .inr (1, ofL 10 Fx31)), (x3, .inr (7, ofL 5 Fx3)), (x29, .inr (4, ofL 3 Fx29))]) (rest := []) li_L_118 C (c_X12_thrown l G H.size m0 (updV (updV Fm0 0 (.int 0)) 0 (.int 2)) 2 rfl) (kR rfl) hP hD hS [6] [0, 1, 2, 3, 4, 5] rfl rfl rfl rfl (by decide) 0 12 rfl rfl rfl hl.1 rfl (Nat.le_of_ble_eq_true rfl) dL_law_2211 (fun rr50 uu51 H locs hw49 hP hD hS => ?_)
      obtain rfl : rr50 = 2 := hw49
      have hP : va_P G.1 vwCl [(aout, .inl (G.2.2.2.2, 1, .inr (.inl ((fun _ => 0))))), (x0, .inr (11, ofL 17 Fx0)), (x28, .inr (10, ofL 7 Fx28)), (x31, .inr (1, ofL 10 Fx31)), (x3, .inr (7, ofL 5 Fx3)), (x29, .inr (4, ofL 3 Fx29)), (m0, .inr (12, ofL 88 (updV (updV Fm0 0 (.int 0)) 0 (.int 2))))] H := hP
      have hD : va_D A [(aout, .inl (G.2.2.2.2, 1, .inr (.inl ((fun _ => 0))))), (x0, .inr (11, ofL 17 Fx0)), (x28, .inr (10, ofL 7 Fx28)), (x31, .inr (1, ofL 10 Fx31)), (x3, .inr (7, ofL 5 Fx3)), (x29, .inr (4, ofL 3 Fx29)), (m0, .inr (12, ofL 88 (updV (updV Fm0 0 (.int 0)) 0 (.int 2))))] := hD
      refine lv_iload hx hb dL_law_2214 (lv_at hl 1 rfl) ?_
      refine lv_icmp_eq (x := 2) (y := 1) (tgt := 2221) hx hb dL_law_2216 (by decide) (fun c_52 => ?_) (fun c_52 => ?_)
      · exact absurd c_52 (by decide)
      refine lv_iconst (v := 0) hx hb dL_law_2219 (by decide) ?_
      exfalso
      have e9_0 : (0 : Int32).toInt = 0 := by decide
      have e9_1 : (1 : Int32).toInt = 1 := by decide
      have e9_30 : (30 : Int32).toInt = 30 := by decide
      simp only [Int32.lt_iff_toInt_lt, Int32.le_iff_toInt_le] at c_4 c_27 c_28 c_29 c_30
      omega
    ·
      have hP : va_P G.1 vwCl [(aout, .inl (G.2.2.2.2, 1, .inr (.inl ((fun _ => 0))))), (x0, .inr (11, ofL 17 Fx0)), (x28, .inr (10, ofL 7 Fx28)), (x31, .inr (1, ofL 10 Fx31)), (x3, .inr (7, ofL 5 Fx3)), (x29, .inr (4, ofL 3 Fx29)), (m0, .inr (12, ofL 88 (updV Fm0 0 (.int 0))))] H := hP
      have hD : va_D A [(aout, .inl (G.2.2.2.2, 1, .inr (.inl ((fun _ => 0))))), (x0, .inr (11, ofL 17 Fx0)), (x28, .inr (10, ofL 7 Fx28)), (x31, .inr (1, ofL 10 Fx31)), (x3, .inr (7, ofL 5 Fx3)), (x29, .inr (4, ofL 3 Fx29)), (m0, .inr (12, ofL 88 (updV Fm0 0 (.int 0))))] := hD
      refine lv_istore (lv' := [(6, .int (-1)), (5, .int 1), (0, .ref b), (1, .ref x0), (2, .ref m0), (3, .ref aout), (4, .int 0)]) hx hb dL_law_2208 hl (by decide) rfl (fun ls hl => ?_)
      refine lv_aload_n hx hb dL_law_2210 rfl (lv_at hl 4 rfl) ?_
      refine k_callVi (wr := [(aout, .inl (G.2.2.2.2, 1, .inr (.inl ((fun _ => 0))))), (x0, .inr (11, ofL 17 Fx0)), (x28, .inr (10, ofL 7 Fx28)), (x31, .inr (1, ofL 10 Fx31)), (x3, .inr (7, ofL 5 Fx3)), (x29, .inr (4, ofL 3 Fx29))]) (rest := []) li_L_118 C (c_X12_thrown l G H.size m0 (updV Fm0 0 (.int 0)) 0 rfl) (kR rfl) hP hD hS [6] [0, 1, 2, 3, 4, 5] rfl rfl rfl rfl (by decide) 0 12 rfl rfl rfl hl.1 rfl (Nat.le_of_ble_eq_true rfl) dL_law_2211 (fun rr54 uu55 H locs hw53 hP hD hS => ?_)
      obtain rfl : rr54 = 0 := hw53
      have hP : va_P G.1 vwCl [(aout, .inl (G.2.2.2.2, 1, .inr (.inl ((fun _ => 0))))), (x0, .inr (11, ofL 17 Fx0)), (x28, .inr (10, ofL 7 Fx28)), (x31, .inr (1, ofL 10 Fx31)), (x3, .inr (7, ofL 5 Fx3)), (x29, .inr (4, ofL 3 Fx29)), (m0, .inr (12, ofL 88 (updV Fm0 0 (.int 0))))] H := hP
      have hD : va_D A [(aout, .inl (G.2.2.2.2, 1, .inr (.inl ((fun _ => 0))))), (x0, .inr (11, ofL 17 Fx0)), (x28, .inr (10, ofL 7 Fx28)), (x31, .inr (1, ofL 10 Fx31)), (x3, .inr (7, ofL 5 Fx3)), (x29, .inr (4, ofL 3 Fx29)), (m0, .inr (12, ofL 88 (updV Fm0 0 (.int 0))))] := hD
      refine lv_iload hx hb dL_law_2214 (lv_at hl 1 rfl) ?_
      refine lv_icmp_eq (x := 0) (y := 1) (tgt := 2221) hx hb dL_law_2216 (by decide) (fun c_56 => ?_) (fun c_56 => ?_)
      · exact absurd c_56 (by decide)
      refine lv_iconst (v := 0) hx hb dL_law_2219 (by decide) ?_
      exfalso
      have e9_0 : (0 : Int32).toInt = 0 := by decide
      have e9_1 : (1 : Int32).toInt = 1 := by decide
      have e9_30 : (30 : Int32).toInt = 30 := by decide
      simp only [Int32.lt_iff_toInt_lt, Int32.le_iff_toInt_le] at c_4 c_31 c_32 c_33 c_34
      omega
  ·
    have hP : va_P G.1 vwCl [(m0, .inr (12, ofL 88 Fm0)), (m12, .inl (G.2.1, 48, .inl (fun _ => 0))), (m42, .inl (G.2.1, 48, .inl (fun _ => 0))), (aout, .inl (G.2.2.2.2, 1, .inr (.inl ((fun _ => 0))))), (x0, .inr (11, ofL 17 Fx0)), (x28, .inr (10, ofL 7 Fx28)), (x31, .inr (1, ofL 10 Fx31)), (x3, .inr (7, ofL 5 Fx3)), (x29, .inr (4, ofL 3 Fx29))] H := hP
    have hD : va_D A [(m0, .inr (12, ofL 88 Fm0)), (m12, .inl (G.2.1, 48, .inl (fun _ => 0))), (m42, .inl (G.2.1, 48, .inl (fun _ => 0))), (aout, .inl (G.2.2.2.2, 1, .inr (.inl ((fun _ => 0))))), (x0, .inr (11, ofL 17 Fx0)), (x28, .inr (10, ofL 7 Fx28)), (x31, .inr (1, ofL 10 Fx31)), (x3, .inr (7, ofL 5 Fx3)), (x29, .inr (4, ofL 3 Fx29))] := hD
    refine lv_istore (lv' := [(5, .int 1), (0, .ref b), (1, .ref x0), (2, .ref m0), (3, .ref aout), (4, .int 0)]) hx hb dL_law_2190 hl (by decide) rfl (fun ls hl => ?_)
    refine lv_aload_n hx hb dL_law_2192 rfl (lv_at hl 3 rfl) ?_
    refine lv_aload_n hx hb dL_law_2193 rfl (lv_at hl 1 rfl) ?_
    refine lv_iload hx hb dL_law_2194 (lv_at hl 5 rfl) ?_
    refine lv_iconst (v := 1) hx hb dL_law_2196 (by decide) ?_
    refine lv_iadd hx hb dL_law_2197 ?_
    refine k_eqi (y := 1) (by decide) ?_
    refine va_sld hx hb hX hbl hbA hS (k_in (by decide)) dL_law_2198 ?_
    refine k_eqi (y := v1) hv1 ?_
    refine lv_aload_n hx hb dL_law_2199 rfl (lv_at hl 1 rfl) ?_
    refine lv_iload hx hb dL_law_2200 (lv_at hl 5 rfl) ?_
    refine lv_iconst (v := 2) hx hb dL_law_2202 (by decide) ?_
    refine lv_iadd hx hb dL_law_2203 ?_
    refine k_eqi (y := 2) (by decide) ?_
    refine va_sld hx hb hX hbl hbA hS (k_in (by decide)) dL_law_2204 ?_
    refine k_eqi (y := v2) hv2 ?_
    refine k_callVi (wr := [(aout, .inl (G.2.2.2.2, 1, .inr (.inl ((fun _ => 0))))), (x0, .inr (11, ofL 17 Fx0)), (x28, .inr (10, ofL 7 Fx28)), (x31, .inr (1, ofL 10 Fx31)), (x3, .inr (7, ofL 5 Fx3)), (x29, .inr (4, ofL 3 Fx29))]) (rest := []) li_L_238 C (c_X12_pause l G H.size m0 v1 v2 Fm0 m12 m42 (fun _ => 0) (fun _ => 0) e_m0_1 e_m0_16 e_m0_72) (kR rfl) hP hD hS [0, 1, 2] [3, 4, 5, 6, 7, 8] rfl rfl rfl rfl (by decide) 0 12 rfl rfl rfl hl.1 rfl (Nat.le_of_ble_eq_true rfl) dL_law_2205 (fun rr58 uu59 H locs hw57 hP hD hS => ?_)
    rcases hw57 with ⟨rfl, rfl, c_60⟩ | ⟨rfl, rfl, c_61, c_62⟩ | ⟨rfl, rfl, c_63, c_64, c_65⟩ | ⟨rfl, rfl, c_66, c_67, c_68, c_69⟩ | ⟨rfl, rfl, c_70, c_71, c_72, c_73⟩
    ·
      have hP : va_P G.1 vwCl [(aout, .inl (G.2.2.2.2, 1, .inr (.inl ((fun _ => 0))))), (x0, .inr (11, ofL 17 Fx0)), (x28, .inr (10, ofL 7 Fx28)), (x31, .inr (1, ofL 10 Fx31)), (x3, .inr (7, ofL 5 Fx3)), (x29, .inr (4, ofL 3 Fx29)), (m0, .inr (12, ofL 88 (updV (updV Fm0 0 (.int 0)) 0 (.int 1))))] H := hP
      have hD : va_D A [(aout, .inl (G.2.2.2.2, 1, .inr (.inl ((fun _ => 0))))), (x0, .inr (11, ofL 17 Fx0)), (x28, .inr (10, ofL 7 Fx28)), (x31, .inr (1, ofL 10 Fx31)), (x3, .inr (7, ofL 5 Fx3)), (x29, .inr (4, ofL 3 Fx29)), (m0, .inr (12, ofL 88 (updV (updV Fm0 0 (.int 0)) 0 (.int 1))))] := hD
      refine lv_istore (lv' := [(6, .int 0), (5, .int 1), (0, .ref b), (1, .ref x0), (2, .ref m0), (3, .ref aout), (4, .int 0)]) hx hb dL_law_2208 hl (by decide) rfl (fun ls hl => ?_)
      refine lv_aload_n hx hb dL_law_2210 rfl (lv_at hl 4 rfl) ?_
      refine k_callVi (wr := [(aout, .inl (G.2.2.2.2, 1, .inr (.inl ((fun _ => 0))))), (x0, .inr (11, ofL 17 Fx0)), (x28, .inr (10, ofL 7 Fx28)), (x31, .inr (1, ofL 10 Fx31)), (x3, .inr (7, ofL 5 Fx3)), (x29, .inr (4, ofL 3 Fx29))]) (rest := []) li_L_118 C (c_X12_thrown l G H.size m0 (updV (updV Fm0 0 (.int 0)) 0 (.int 1)) 1 rfl) (kR rfl) hP hD hS [6] [0, 1, 2, 3, 4, 5] rfl rfl rfl rfl (by decide) 0 12 rfl rfl rfl hl.1 rfl (Nat.le_of_ble_eq_true rfl) dL_law_2211 (fun rr75 uu76 H locs hw74 hP hD hS => ?_)
      obtain rfl : rr75 = 1 := hw74
      have hP : va_P G.1 vwCl [(aout, .inl (G.2.2.2.2, 1, .inr (.inl ((fun _ => 0))))), (x0, .inr (11, ofL 17 Fx0)), (x28, .inr (10, ofL 7 Fx28)), (x31, .inr (1, ofL 10 Fx31)), (x3, .inr (7, ofL 5 Fx3)), (x29, .inr (4, ofL 3 Fx29)), (m0, .inr (12, ofL 88 (updV (updV Fm0 0 (.int 0)) 0 (.int 1))))] H := hP
      have hD : va_D A [(aout, .inl (G.2.2.2.2, 1, .inr (.inl ((fun _ => 0))))), (x0, .inr (11, ofL 17 Fx0)), (x28, .inr (10, ofL 7 Fx28)), (x31, .inr (1, ofL 10 Fx31)), (x3, .inr (7, ofL 5 Fx3)), (x29, .inr (4, ofL 3 Fx29)), (m0, .inr (12, ofL 88 (updV (updV Fm0 0 (.int 0)) 0 (.int 1))))] := hD
      refine lv_iload hx hb dL_law_2214 (lv_at hl 1 rfl) ?_
      refine lv_icmp_eq (x := 1) (y := 1) (tgt := 2221) hx hb dL_law_2216 (by decide) (fun c_77 => ?_) (fun c_77 => ?_)
      rotate_left
      · exact absurd (by decide) c_77
      refine lv_iload hx hb dL_law_2221 (lv_at hl 1 rfl) ?_
      refine lv_if_ne (x := 1) (tgt := 2238) hx hb dL_law_2223 (by decide) (fun c_78 => ?_) (fun c_78 => ?_)
      rotate_left
      · exact absurd c_78 (by decide)
      refine lv_goto (tgt := 2265) hx hb dL_law_2238 (by decide) ?_
      exact law_end hst C0 hA C hS (lv_sub hl [2, 6] rfl) (Nat.le_of_ble_eq_true rfl) (Nat.le_of_ble_eq_true rfl)
    ·
      have hP : va_P G.1 vwCl [(aout, .inl (G.2.2.2.2, 1, .inr (.inl ((fun _ => 0))))), (x0, .inr (11, ofL 17 Fx0)), (x28, .inr (10, ofL 7 Fx28)), (x31, .inr (1, ofL 10 Fx31)), (x3, .inr (7, ofL 5 Fx3)), (x29, .inr (4, ofL 3 Fx29)), (m0, .inr (12, ofL 88 (updV (updV Fm0 0 (.int 0)) 0 (.int 1))))] H := hP
      have hD : va_D A [(aout, .inl (G.2.2.2.2, 1, .inr (.inl ((fun _ => 0))))), (x0, .inr (11, ofL 17 Fx0)), (x28, .inr (10, ofL 7 Fx28)), (x31, .inr (1, ofL 10 Fx31)), (x3, .inr (7, ofL 5 Fx3)), (x29, .inr (4, ofL 3 Fx29)), (m0, .inr (12, ofL 88 (updV (updV Fm0 0 (.int 0)) 0 (.int 1))))] := hD
      refine lv_istore (lv' := [(6, .int 0), (5, .int 1), (0, .ref b), (1, .ref x0), (2, .ref m0), (3, .ref aout), (4, .int 0)]) hx hb dL_law_2208 hl (by decide) rfl (fun ls hl => ?_)
      refine lv_aload_n hx hb dL_law_2210 rfl (lv_at hl 4 rfl) ?_
      refine k_callVi (wr := [(aout, .inl (G.2.2.2.2, 1, .inr (.inl ((fun _ => 0))))), (x0, .inr (11, ofL 17 Fx0)), (x28, .inr (10, ofL 7 Fx28)), (x31, .inr (1, ofL 10 Fx31)), (x3, .inr (7, ofL 5 Fx3)), (x29, .inr (4, ofL 3 Fx29))]) (rest := []) li_L_118 C (c_X12_thrown l G H.size m0 (updV (updV Fm0 0 (.int 0)) 0 (.int 1)) 1 rfl) (kR rfl) hP hD hS [6] [0, 1, 2, 3, 4, 5] rfl rfl rfl rfl (by decide) 0 12 rfl rfl rfl hl.1 rfl (Nat.le_of_ble_eq_true rfl) dL_law_2211 (fun rr80 uu81 H locs hw79 hP hD hS => ?_)
      obtain rfl : rr80 = 1 := hw79
      have hP : va_P G.1 vwCl [(aout, .inl (G.2.2.2.2, 1, .inr (.inl ((fun _ => 0))))), (x0, .inr (11, ofL 17 Fx0)), (x28, .inr (10, ofL 7 Fx28)), (x31, .inr (1, ofL 10 Fx31)), (x3, .inr (7, ofL 5 Fx3)), (x29, .inr (4, ofL 3 Fx29)), (m0, .inr (12, ofL 88 (updV (updV Fm0 0 (.int 0)) 0 (.int 1))))] H := hP
      have hD : va_D A [(aout, .inl (G.2.2.2.2, 1, .inr (.inl ((fun _ => 0))))), (x0, .inr (11, ofL 17 Fx0)), (x28, .inr (10, ofL 7 Fx28)), (x31, .inr (1, ofL 10 Fx31)), (x3, .inr (7, ofL 5 Fx3)), (x29, .inr (4, ofL 3 Fx29)), (m0, .inr (12, ofL 88 (updV (updV Fm0 0 (.int 0)) 0 (.int 1))))] := hD
      refine lv_iload hx hb dL_law_2214 (lv_at hl 1 rfl) ?_
      refine lv_icmp_eq (x := 1) (y := 1) (tgt := 2221) hx hb dL_law_2216 (by decide) (fun c_82 => ?_) (fun c_82 => ?_)
      rotate_left
      · exact absurd (by decide) c_82
      refine lv_iload hx hb dL_law_2221 (lv_at hl 1 rfl) ?_
      refine lv_if_ne (x := 1) (tgt := 2238) hx hb dL_law_2223 (by decide) (fun c_83 => ?_) (fun c_83 => ?_)
      rotate_left
      · exact absurd c_83 (by decide)
      refine lv_goto (tgt := 2265) hx hb dL_law_2238 (by decide) ?_
      exact law_end hst C0 hA C hS (lv_sub hl [2, 6] rfl) (Nat.le_of_ble_eq_true rfl) (Nat.le_of_ble_eq_true rfl)
    ·
      have hP : va_P G.1 vwCl [(aout, .inl (G.2.2.2.2, 1, .inr (.inl ((fun _ => 0))))), (x0, .inr (11, ofL 17 Fx0)), (x28, .inr (10, ofL 7 Fx28)), (x31, .inr (1, ofL 10 Fx31)), (x3, .inr (7, ofL 5 Fx3)), (x29, .inr (4, ofL 3 Fx29)), (m0, .inr (12, ofL 88 (updV (updV Fm0 0 (.int 0)) 0 (.int 2))))] H := hP
      have hD : va_D A [(aout, .inl (G.2.2.2.2, 1, .inr (.inl ((fun _ => 0))))), (x0, .inr (11, ofL 17 Fx0)), (x28, .inr (10, ofL 7 Fx28)), (x31, .inr (1, ofL 10 Fx31)), (x3, .inr (7, ofL 5 Fx3)), (x29, .inr (4, ofL 3 Fx29)), (m0, .inr (12, ofL 88 (updV (updV Fm0 0 (.int 0)) 0 (.int 2))))] := hD
      refine lv_istore (lv' := [(6, .int 0), (5, .int 1), (0, .ref b), (1, .ref x0), (2, .ref m0), (3, .ref aout), (4, .int 0)]) hx hb dL_law_2208 hl (by decide) rfl (fun ls hl => ?_)
      refine lv_aload_n hx hb dL_law_2210 rfl (lv_at hl 4 rfl) ?_
      refine k_callVi (wr := [(aout, .inl (G.2.2.2.2, 1, .inr (.inl ((fun _ => 0))))), (x0, .inr (11, ofL 17 Fx0)), (x28, .inr (10, ofL 7 Fx28)), (x31, .inr (1, ofL 10 Fx31)), (x3, .inr (7, ofL 5 Fx3)), (x29, .inr (4, ofL 3 Fx29))]) (rest := []) li_L_118 C (c_X12_thrown l G H.size m0 (updV (updV Fm0 0 (.int 0)) 0 (.int 2)) 2 rfl) (kR rfl) hP hD hS [6] [0, 1, 2, 3, 4, 5] rfl rfl rfl rfl (by decide) 0 12 rfl rfl rfl hl.1 rfl (Nat.le_of_ble_eq_true rfl) dL_law_2211 (fun rr85 uu86 H locs hw84 hP hD hS => ?_)
      obtain rfl : rr85 = 2 := hw84
      have hP : va_P G.1 vwCl [(aout, .inl (G.2.2.2.2, 1, .inr (.inl ((fun _ => 0))))), (x0, .inr (11, ofL 17 Fx0)), (x28, .inr (10, ofL 7 Fx28)), (x31, .inr (1, ofL 10 Fx31)), (x3, .inr (7, ofL 5 Fx3)), (x29, .inr (4, ofL 3 Fx29)), (m0, .inr (12, ofL 88 (updV (updV Fm0 0 (.int 0)) 0 (.int 2))))] H := hP
      have hD : va_D A [(aout, .inl (G.2.2.2.2, 1, .inr (.inl ((fun _ => 0))))), (x0, .inr (11, ofL 17 Fx0)), (x28, .inr (10, ofL 7 Fx28)), (x31, .inr (1, ofL 10 Fx31)), (x3, .inr (7, ofL 5 Fx3)), (x29, .inr (4, ofL 3 Fx29)), (m0, .inr (12, ofL 88 (updV (updV Fm0 0 (.int 0)) 0 (.int 2))))] := hD
      refine lv_iload hx hb dL_law_2214 (lv_at hl 1 rfl) ?_
      refine lv_icmp_eq (x := 2) (y := 1) (tgt := 2221) hx hb dL_law_2216 (by decide) (fun c_87 => ?_) (fun c_87 => ?_)
      · exact absurd c_87 (by decide)
      refine lv_iconst (v := 0) hx hb dL_law_2219 (by decide) ?_
      exfalso
      have e9_0 : (0 : Int32).toInt = 0 := by decide
      have e9_1 : (1 : Int32).toInt = 1 := by decide
      have e9_2 : (2 : Int32).toInt = 2 := by decide
      simp only [Int32.lt_iff_toInt_lt, Int32.le_iff_toInt_le] at c_5 c_6 c_63 c_64 c_65
      omega
    ·
      have hP : va_P G.1 vwCl [(aout, .inl (G.2.2.2.2, 1, .inr (.inl ((fun _ => 0))))), (x0, .inr (11, ofL 17 Fx0)), (x28, .inr (10, ofL 7 Fx28)), (x31, .inr (1, ofL 10 Fx31)), (x3, .inr (7, ofL 5 Fx3)), (x29, .inr (4, ofL 3 Fx29)), (m0, .inr (12, ofL 88 (updV (updV Fm0 0 (.int 0)) 0 (.int 2))))] H := hP
      have hD : va_D A [(aout, .inl (G.2.2.2.2, 1, .inr (.inl ((fun _ => 0))))), (x0, .inr (11, ofL 17 Fx0)), (x28, .inr (10, ofL 7 Fx28)), (x31, .inr (1, ofL 10 Fx31)), (x3, .inr (7, ofL 5 Fx3)), (x29, .inr (4, ofL 3 Fx29)), (m0, .inr (12, ofL 88 (updV (updV Fm0 0 (.int 0)) 0 (.int 2))))] := hD
      refine lv_istore (lv' := [(6, .int 0), (5, .int 1), (0, .ref b), (1, .ref x0), (2, .ref m0), (3, .ref aout), (4, .int 0)]) hx hb dL_law_2208 hl (by decide) rfl (fun ls hl => ?_)
      refine lv_aload_n hx hb dL_law_2210 rfl (lv_at hl 4 rfl) ?_
      refine k_callVi (wr := [(aout, .inl (G.2.2.2.2, 1, .inr (.inl ((fun _ => 0))))), (x0, .inr (11, ofL 17 Fx0)), (x28, .inr (10, ofL 7 Fx28)), (x31, .inr (1, ofL 10 Fx31)), (x3, .inr (7, ofL 5 Fx3)), (x29, .inr (4, ofL 3 Fx29))]) (rest := []) li_L_118 C (c_X12_thrown l G H.size m0 (updV (updV Fm0 0 (.int 0)) 0 (.int 2)) 2 rfl) (kR rfl) hP hD hS [6] [0, 1, 2, 3, 4, 5] rfl rfl rfl rfl (by decide) 0 12 rfl rfl rfl hl.1 rfl (Nat.le_of_ble_eq_true rfl) dL_law_2211 (fun rr89 uu90 H locs hw88 hP hD hS => ?_)
      obtain rfl : rr89 = 2 := hw88
      have hP : va_P G.1 vwCl [(aout, .inl (G.2.2.2.2, 1, .inr (.inl ((fun _ => 0))))), (x0, .inr (11, ofL 17 Fx0)), (x28, .inr (10, ofL 7 Fx28)), (x31, .inr (1, ofL 10 Fx31)), (x3, .inr (7, ofL 5 Fx3)), (x29, .inr (4, ofL 3 Fx29)), (m0, .inr (12, ofL 88 (updV (updV Fm0 0 (.int 0)) 0 (.int 2))))] H := hP
      have hD : va_D A [(aout, .inl (G.2.2.2.2, 1, .inr (.inl ((fun _ => 0))))), (x0, .inr (11, ofL 17 Fx0)), (x28, .inr (10, ofL 7 Fx28)), (x31, .inr (1, ofL 10 Fx31)), (x3, .inr (7, ofL 5 Fx3)), (x29, .inr (4, ofL 3 Fx29)), (m0, .inr (12, ofL 88 (updV (updV Fm0 0 (.int 0)) 0 (.int 2))))] := hD
      refine lv_iload hx hb dL_law_2214 (lv_at hl 1 rfl) ?_
      refine lv_icmp_eq (x := 2) (y := 1) (tgt := 2221) hx hb dL_law_2216 (by decide) (fun c_91 => ?_) (fun c_91 => ?_)
      · exact absurd c_91 (by decide)
      refine lv_iconst (v := 0) hx hb dL_law_2219 (by decide) ?_
      exfalso
      have e9_0 : (0 : Int32).toInt = 0 := by decide
      have e9_1 : (1 : Int32).toInt = 1 := by decide
      have e9_2 : (2 : Int32).toInt = 2 := by decide
      have e9_30 : (30 : Int32).toInt = 30 := by decide
      simp only [Int32.lt_iff_toInt_lt, Int32.le_iff_toInt_le] at c_5 c_6 c_66 c_67 c_68 c_69
      omega
    ·
      have hP : va_P G.1 vwCl [(aout, .inl (G.2.2.2.2, 1, .inr (.inl ((fun _ => 0))))), (x0, .inr (11, ofL 17 Fx0)), (x28, .inr (10, ofL 7 Fx28)), (x31, .inr (1, ofL 10 Fx31)), (x3, .inr (7, ofL 5 Fx3)), (x29, .inr (4, ofL 3 Fx29)), (m0, .inr (12, ofL 88 (updV Fm0 0 (.int 0))))] H := hP
      have hD : va_D A [(aout, .inl (G.2.2.2.2, 1, .inr (.inl ((fun _ => 0))))), (x0, .inr (11, ofL 17 Fx0)), (x28, .inr (10, ofL 7 Fx28)), (x31, .inr (1, ofL 10 Fx31)), (x3, .inr (7, ofL 5 Fx3)), (x29, .inr (4, ofL 3 Fx29)), (m0, .inr (12, ofL 88 (updV Fm0 0 (.int 0))))] := hD
      refine lv_istore (lv' := [(6, .int (-1)), (5, .int 1), (0, .ref b), (1, .ref x0), (2, .ref m0), (3, .ref aout), (4, .int 0)]) hx hb dL_law_2208 hl (by decide) rfl (fun ls hl => ?_)
      refine lv_aload_n hx hb dL_law_2210 rfl (lv_at hl 4 rfl) ?_
      refine k_callVi (wr := [(aout, .inl (G.2.2.2.2, 1, .inr (.inl ((fun _ => 0))))), (x0, .inr (11, ofL 17 Fx0)), (x28, .inr (10, ofL 7 Fx28)), (x31, .inr (1, ofL 10 Fx31)), (x3, .inr (7, ofL 5 Fx3)), (x29, .inr (4, ofL 3 Fx29))]) (rest := []) li_L_118 C (c_X12_thrown l G H.size m0 (updV Fm0 0 (.int 0)) 0 rfl) (kR rfl) hP hD hS [6] [0, 1, 2, 3, 4, 5] rfl rfl rfl rfl (by decide) 0 12 rfl rfl rfl hl.1 rfl (Nat.le_of_ble_eq_true rfl) dL_law_2211 (fun rr93 uu94 H locs hw92 hP hD hS => ?_)
      obtain rfl : rr93 = 0 := hw92
      have hP : va_P G.1 vwCl [(aout, .inl (G.2.2.2.2, 1, .inr (.inl ((fun _ => 0))))), (x0, .inr (11, ofL 17 Fx0)), (x28, .inr (10, ofL 7 Fx28)), (x31, .inr (1, ofL 10 Fx31)), (x3, .inr (7, ofL 5 Fx3)), (x29, .inr (4, ofL 3 Fx29)), (m0, .inr (12, ofL 88 (updV Fm0 0 (.int 0))))] H := hP
      have hD : va_D A [(aout, .inl (G.2.2.2.2, 1, .inr (.inl ((fun _ => 0))))), (x0, .inr (11, ofL 17 Fx0)), (x28, .inr (10, ofL 7 Fx28)), (x31, .inr (1, ofL 10 Fx31)), (x3, .inr (7, ofL 5 Fx3)), (x29, .inr (4, ofL 3 Fx29)), (m0, .inr (12, ofL 88 (updV Fm0 0 (.int 0))))] := hD
      refine lv_iload hx hb dL_law_2214 (lv_at hl 1 rfl) ?_
      refine lv_icmp_eq (x := 0) (y := 1) (tgt := 2221) hx hb dL_law_2216 (by decide) (fun c_95 => ?_) (fun c_95 => ?_)
      · exact absurd c_95 (by decide)
      refine lv_iconst (v := 0) hx hb dL_law_2219 (by decide) ?_
      exfalso
      have e9_0 : (0 : Int32).toInt = 0 := by decide
      have e9_1 : (1 : Int32).toInt = 1 := by decide
      have e9_2 : (2 : Int32).toInt = 2 := by decide
      have e9_30 : (30 : Int32).toInt = 30 := by decide
      simp only [Int32.lt_iff_toInt_lt, Int32.le_iff_toInt_le] at c_5 c_6 c_70 c_71 c_72 c_73
      omega
  ·
    have hP : va_P G.1 vwCl [(m0, .inr (12, ofL 88 Fm0)), (m12, .inl (G.2.1, 48, .inl (fun _ => 0))), (m42, .inl (G.2.1, 48, .inl (fun _ => 0))), (aout, .inl (G.2.2.2.2, 1, .inr (.inl ((fun _ => 0))))), (x0, .inr (11, ofL 17 Fx0)), (x28, .inr (10, ofL 7 Fx28)), (x31, .inr (1, ofL 10 Fx31)), (x3, .inr (7, ofL 5 Fx3)), (x29, .inr (4, ofL 3 Fx29))] H := hP
    have hD : va_D A [(m0, .inr (12, ofL 88 Fm0)), (m12, .inl (G.2.1, 48, .inl (fun _ => 0))), (m42, .inl (G.2.1, 48, .inl (fun _ => 0))), (aout, .inl (G.2.2.2.2, 1, .inr (.inl ((fun _ => 0))))), (x0, .inr (11, ofL 17 Fx0)), (x28, .inr (10, ofL 7 Fx28)), (x31, .inr (1, ofL 10 Fx31)), (x3, .inr (7, ofL 5 Fx3)), (x29, .inr (4, ofL 3 Fx29))] := hD
    refine lv_istore (lv' := [(5, .int 2), (0, .ref b), (1, .ref x0), (2, .ref m0), (3, .ref aout), (4, .int 0)]) hx hb dL_law_2190 hl (by decide) rfl (fun ls hl => ?_)
    refine lv_aload_n hx hb dL_law_2192 rfl (lv_at hl 3 rfl) ?_
    refine lv_aload_n hx hb dL_law_2193 rfl (lv_at hl 1 rfl) ?_
    refine lv_iload hx hb dL_law_2194 (lv_at hl 5 rfl) ?_
    refine lv_iconst (v := 1) hx hb dL_law_2196 (by decide) ?_
    refine lv_iadd hx hb dL_law_2197 ?_
    refine k_eqi (y := 1) (by decide) ?_
    refine va_sld hx hb hX hbl hbA hS (k_in (by decide)) dL_law_2198 ?_
    refine k_eqi (y := v1) hv1 ?_
    refine lv_aload_n hx hb dL_law_2199 rfl (lv_at hl 1 rfl) ?_
    refine lv_iload hx hb dL_law_2200 (lv_at hl 5 rfl) ?_
    refine lv_iconst (v := 2) hx hb dL_law_2202 (by decide) ?_
    refine lv_iadd hx hb dL_law_2203 ?_
    refine k_eqi (y := 2) (by decide) ?_
    refine va_sld hx hb hX hbl hbA hS (k_in (by decide)) dL_law_2204 ?_
    refine k_eqi (y := v2) hv2 ?_
    refine k_callVi (wr := [(aout, .inl (G.2.2.2.2, 1, .inr (.inl ((fun _ => 0))))), (x0, .inr (11, ofL 17 Fx0)), (x28, .inr (10, ofL 7 Fx28)), (x31, .inr (1, ofL 10 Fx31)), (x3, .inr (7, ofL 5 Fx3)), (x29, .inr (4, ofL 3 Fx29))]) (rest := []) li_L_238 C (c_X12_pause l G H.size m0 v1 v2 Fm0 m12 m42 (fun _ => 0) (fun _ => 0) e_m0_1 e_m0_16 e_m0_72) (kR rfl) hP hD hS [0, 1, 2] [3, 4, 5, 6, 7, 8] rfl rfl rfl rfl (by decide) 0 12 rfl rfl rfl hl.1 rfl (Nat.le_of_ble_eq_true rfl) dL_law_2205 (fun rr97 uu98 H locs hw96 hP hD hS => ?_)
    rcases hw96 with ⟨rfl, rfl, c_99⟩ | ⟨rfl, rfl, c_100, c_101⟩ | ⟨rfl, rfl, c_102, c_103, c_104⟩ | ⟨rfl, rfl, c_105, c_106, c_107, c_108⟩ | ⟨rfl, rfl, c_109, c_110, c_111, c_112⟩
    ·
      have hP : va_P G.1 vwCl [(aout, .inl (G.2.2.2.2, 1, .inr (.inl ((fun _ => 0))))), (x0, .inr (11, ofL 17 Fx0)), (x28, .inr (10, ofL 7 Fx28)), (x31, .inr (1, ofL 10 Fx31)), (x3, .inr (7, ofL 5 Fx3)), (x29, .inr (4, ofL 3 Fx29)), (m0, .inr (12, ofL 88 (updV (updV Fm0 0 (.int 0)) 0 (.int 1))))] H := hP
      have hD : va_D A [(aout, .inl (G.2.2.2.2, 1, .inr (.inl ((fun _ => 0))))), (x0, .inr (11, ofL 17 Fx0)), (x28, .inr (10, ofL 7 Fx28)), (x31, .inr (1, ofL 10 Fx31)), (x3, .inr (7, ofL 5 Fx3)), (x29, .inr (4, ofL 3 Fx29)), (m0, .inr (12, ofL 88 (updV (updV Fm0 0 (.int 0)) 0 (.int 1))))] := hD
      refine lv_istore (lv' := [(6, .int 0), (5, .int 2), (0, .ref b), (1, .ref x0), (2, .ref m0), (3, .ref aout), (4, .int 0)]) hx hb dL_law_2208 hl (by decide) rfl (fun ls hl => ?_)
      refine lv_aload_n hx hb dL_law_2210 rfl (lv_at hl 4 rfl) ?_
      refine k_callVi (wr := [(aout, .inl (G.2.2.2.2, 1, .inr (.inl ((fun _ => 0))))), (x0, .inr (11, ofL 17 Fx0)), (x28, .inr (10, ofL 7 Fx28)), (x31, .inr (1, ofL 10 Fx31)), (x3, .inr (7, ofL 5 Fx3)), (x29, .inr (4, ofL 3 Fx29))]) (rest := []) li_L_118 C (c_X12_thrown l G H.size m0 (updV (updV Fm0 0 (.int 0)) 0 (.int 1)) 1 rfl) (kR rfl) hP hD hS [6] [0, 1, 2, 3, 4, 5] rfl rfl rfl rfl (by decide) 0 12 rfl rfl rfl hl.1 rfl (Nat.le_of_ble_eq_true rfl) dL_law_2211 (fun rr114 uu115 H locs hw113 hP hD hS => ?_)
      obtain rfl : rr114 = 1 := hw113
      have hP : va_P G.1 vwCl [(aout, .inl (G.2.2.2.2, 1, .inr (.inl ((fun _ => 0))))), (x0, .inr (11, ofL 17 Fx0)), (x28, .inr (10, ofL 7 Fx28)), (x31, .inr (1, ofL 10 Fx31)), (x3, .inr (7, ofL 5 Fx3)), (x29, .inr (4, ofL 3 Fx29)), (m0, .inr (12, ofL 88 (updV (updV Fm0 0 (.int 0)) 0 (.int 1))))] H := hP
      have hD : va_D A [(aout, .inl (G.2.2.2.2, 1, .inr (.inl ((fun _ => 0))))), (x0, .inr (11, ofL 17 Fx0)), (x28, .inr (10, ofL 7 Fx28)), (x31, .inr (1, ofL 10 Fx31)), (x3, .inr (7, ofL 5 Fx3)), (x29, .inr (4, ofL 3 Fx29)), (m0, .inr (12, ofL 88 (updV (updV Fm0 0 (.int 0)) 0 (.int 1))))] := hD
      refine lv_iload hx hb dL_law_2214 (lv_at hl 1 rfl) ?_
      refine lv_icmp_eq (x := 1) (y := 2) (tgt := 2221) hx hb dL_law_2216 (by decide) (fun c_116 => ?_) (fun c_116 => ?_)
      · exact absurd c_116 (by decide)
      refine lv_iconst (v := 0) hx hb dL_law_2219 (by decide) ?_
      exfalso
      have e9_0 : (0 : Int32).toInt = 0 := by decide
      have e9_1 : (1 : Int32).toInt = 1 := by decide
      have e9_2 : (2 : Int32).toInt = 2 := by decide
      simp only [Int32.lt_iff_toInt_lt, Int32.le_iff_toInt_le] at c_7 c_8 c_9 c_99
      omega
    ·
      have hP : va_P G.1 vwCl [(aout, .inl (G.2.2.2.2, 1, .inr (.inl ((fun _ => 0))))), (x0, .inr (11, ofL 17 Fx0)), (x28, .inr (10, ofL 7 Fx28)), (x31, .inr (1, ofL 10 Fx31)), (x3, .inr (7, ofL 5 Fx3)), (x29, .inr (4, ofL 3 Fx29)), (m0, .inr (12, ofL 88 (updV (updV Fm0 0 (.int 0)) 0 (.int 1))))] H := hP
      have hD : va_D A [(aout, .inl (G.2.2.2.2, 1, .inr (.inl ((fun _ => 0))))), (x0, .inr (11, ofL 17 Fx0)), (x28, .inr (10, ofL 7 Fx28)), (x31, .inr (1, ofL 10 Fx31)), (x3, .inr (7, ofL 5 Fx3)), (x29, .inr (4, ofL 3 Fx29)), (m0, .inr (12, ofL 88 (updV (updV Fm0 0 (.int 0)) 0 (.int 1))))] := hD
      refine lv_istore (lv' := [(6, .int 0), (5, .int 2), (0, .ref b), (1, .ref x0), (2, .ref m0), (3, .ref aout), (4, .int 0)]) hx hb dL_law_2208 hl (by decide) rfl (fun ls hl => ?_)
      refine lv_aload_n hx hb dL_law_2210 rfl (lv_at hl 4 rfl) ?_
      refine k_callVi (wr := [(aout, .inl (G.2.2.2.2, 1, .inr (.inl ((fun _ => 0))))), (x0, .inr (11, ofL 17 Fx0)), (x28, .inr (10, ofL 7 Fx28)), (x31, .inr (1, ofL 10 Fx31)), (x3, .inr (7, ofL 5 Fx3)), (x29, .inr (4, ofL 3 Fx29))]) (rest := []) li_L_118 C (c_X12_thrown l G H.size m0 (updV (updV Fm0 0 (.int 0)) 0 (.int 1)) 1 rfl) (kR rfl) hP hD hS [6] [0, 1, 2, 3, 4, 5] rfl rfl rfl rfl (by decide) 0 12 rfl rfl rfl hl.1 rfl (Nat.le_of_ble_eq_true rfl) dL_law_2211 (fun rr118 uu119 H locs hw117 hP hD hS => ?_)
      obtain rfl : rr118 = 1 := hw117
      have hP : va_P G.1 vwCl [(aout, .inl (G.2.2.2.2, 1, .inr (.inl ((fun _ => 0))))), (x0, .inr (11, ofL 17 Fx0)), (x28, .inr (10, ofL 7 Fx28)), (x31, .inr (1, ofL 10 Fx31)), (x3, .inr (7, ofL 5 Fx3)), (x29, .inr (4, ofL 3 Fx29)), (m0, .inr (12, ofL 88 (updV (updV Fm0 0 (.int 0)) 0 (.int 1))))] H := hP
      have hD : va_D A [(aout, .inl (G.2.2.2.2, 1, .inr (.inl ((fun _ => 0))))), (x0, .inr (11, ofL 17 Fx0)), (x28, .inr (10, ofL 7 Fx28)), (x31, .inr (1, ofL 10 Fx31)), (x3, .inr (7, ofL 5 Fx3)), (x29, .inr (4, ofL 3 Fx29)), (m0, .inr (12, ofL 88 (updV (updV Fm0 0 (.int 0)) 0 (.int 1))))] := hD
      refine lv_iload hx hb dL_law_2214 (lv_at hl 1 rfl) ?_
      refine lv_icmp_eq (x := 1) (y := 2) (tgt := 2221) hx hb dL_law_2216 (by decide) (fun c_120 => ?_) (fun c_120 => ?_)
      · exact absurd c_120 (by decide)
      refine lv_iconst (v := 0) hx hb dL_law_2219 (by decide) ?_
      exfalso
      have e9_0 : (0 : Int32).toInt = 0 := by decide
      have e9_1 : (1 : Int32).toInt = 1 := by decide
      have e9_2 : (2 : Int32).toInt = 2 := by decide
      simp only [Int32.lt_iff_toInt_lt, Int32.le_iff_toInt_le] at c_7 c_8 c_9 c_100 c_101
      omega
    ·
      have hP : va_P G.1 vwCl [(aout, .inl (G.2.2.2.2, 1, .inr (.inl ((fun _ => 0))))), (x0, .inr (11, ofL 17 Fx0)), (x28, .inr (10, ofL 7 Fx28)), (x31, .inr (1, ofL 10 Fx31)), (x3, .inr (7, ofL 5 Fx3)), (x29, .inr (4, ofL 3 Fx29)), (m0, .inr (12, ofL 88 (updV (updV Fm0 0 (.int 0)) 0 (.int 2))))] H := hP
      have hD : va_D A [(aout, .inl (G.2.2.2.2, 1, .inr (.inl ((fun _ => 0))))), (x0, .inr (11, ofL 17 Fx0)), (x28, .inr (10, ofL 7 Fx28)), (x31, .inr (1, ofL 10 Fx31)), (x3, .inr (7, ofL 5 Fx3)), (x29, .inr (4, ofL 3 Fx29)), (m0, .inr (12, ofL 88 (updV (updV Fm0 0 (.int 0)) 0 (.int 2))))] := hD
      refine lv_istore (lv' := [(6, .int 0), (5, .int 2), (0, .ref b), (1, .ref x0), (2, .ref m0), (3, .ref aout), (4, .int 0)]) hx hb dL_law_2208 hl (by decide) rfl (fun ls hl => ?_)
      refine lv_aload_n hx hb dL_law_2210 rfl (lv_at hl 4 rfl) ?_
      refine k_callVi (wr := [(aout, .inl (G.2.2.2.2, 1, .inr (.inl ((fun _ => 0))))), (x0, .inr (11, ofL 17 Fx0)), (x28, .inr (10, ofL 7 Fx28)), (x31, .inr (1, ofL 10 Fx31)), (x3, .inr (7, ofL 5 Fx3)), (x29, .inr (4, ofL 3 Fx29))]) (rest := []) li_L_118 C (c_X12_thrown l G H.size m0 (updV (updV Fm0 0 (.int 0)) 0 (.int 2)) 2 rfl) (kR rfl) hP hD hS [6] [0, 1, 2, 3, 4, 5] rfl rfl rfl rfl (by decide) 0 12 rfl rfl rfl hl.1 rfl (Nat.le_of_ble_eq_true rfl) dL_law_2211 (fun rr122 uu123 H locs hw121 hP hD hS => ?_)
      obtain rfl : rr122 = 2 := hw121
      have hP : va_P G.1 vwCl [(aout, .inl (G.2.2.2.2, 1, .inr (.inl ((fun _ => 0))))), (x0, .inr (11, ofL 17 Fx0)), (x28, .inr (10, ofL 7 Fx28)), (x31, .inr (1, ofL 10 Fx31)), (x3, .inr (7, ofL 5 Fx3)), (x29, .inr (4, ofL 3 Fx29)), (m0, .inr (12, ofL 88 (updV (updV Fm0 0 (.int 0)) 0 (.int 2))))] H := hP
      have hD : va_D A [(aout, .inl (G.2.2.2.2, 1, .inr (.inl ((fun _ => 0))))), (x0, .inr (11, ofL 17 Fx0)), (x28, .inr (10, ofL 7 Fx28)), (x31, .inr (1, ofL 10 Fx31)), (x3, .inr (7, ofL 5 Fx3)), (x29, .inr (4, ofL 3 Fx29)), (m0, .inr (12, ofL 88 (updV (updV Fm0 0 (.int 0)) 0 (.int 2))))] := hD
      refine lv_iload hx hb dL_law_2214 (lv_at hl 1 rfl) ?_
      refine lv_icmp_eq (x := 2) (y := 2) (tgt := 2221) hx hb dL_law_2216 (by decide) (fun c_124 => ?_) (fun c_124 => ?_)
      rotate_left
      · exact absurd (by decide) c_124
      refine lv_iload hx hb dL_law_2221 (lv_at hl 1 rfl) ?_
      refine lv_if_ne (x := 2) (tgt := 2238) hx hb dL_law_2223 (by decide) (fun c_125 => ?_) (fun c_125 => ?_)
      rotate_left
      · exact absurd c_125 (by decide)
      refine lv_goto (tgt := 2265) hx hb dL_law_2238 (by decide) ?_
      exact law_end hst C0 hA C hS (lv_sub hl [2, 6] rfl) (Nat.le_of_ble_eq_true rfl) (Nat.le_of_ble_eq_true rfl)
    ·
      have hP : va_P G.1 vwCl [(aout, .inl (G.2.2.2.2, 1, .inr (.inl ((fun _ => 0))))), (x0, .inr (11, ofL 17 Fx0)), (x28, .inr (10, ofL 7 Fx28)), (x31, .inr (1, ofL 10 Fx31)), (x3, .inr (7, ofL 5 Fx3)), (x29, .inr (4, ofL 3 Fx29)), (m0, .inr (12, ofL 88 (updV (updV Fm0 0 (.int 0)) 0 (.int 2))))] H := hP
      have hD : va_D A [(aout, .inl (G.2.2.2.2, 1, .inr (.inl ((fun _ => 0))))), (x0, .inr (11, ofL 17 Fx0)), (x28, .inr (10, ofL 7 Fx28)), (x31, .inr (1, ofL 10 Fx31)), (x3, .inr (7, ofL 5 Fx3)), (x29, .inr (4, ofL 3 Fx29)), (m0, .inr (12, ofL 88 (updV (updV Fm0 0 (.int 0)) 0 (.int 2))))] := hD
      refine lv_istore (lv' := [(6, .int 0), (5, .int 2), (0, .ref b), (1, .ref x0), (2, .ref m0), (3, .ref aout), (4, .int 0)]) hx hb dL_law_2208 hl (by decide) rfl (fun ls hl => ?_)
      refine lv_aload_n hx hb dL_law_2210 rfl (lv_at hl 4 rfl) ?_
      refine k_callVi (wr := [(aout, .inl (G.2.2.2.2, 1, .inr (.inl ((fun _ => 0))))), (x0, .inr (11, ofL 17 Fx0)), (x28, .inr (10, ofL 7 Fx28)), (x31, .inr (1, ofL 10 Fx31)), (x3, .inr (7, ofL 5 Fx3)), (x29, .inr (4, ofL 3 Fx29))]) (rest := []) li_L_118 C (c_X12_thrown l G H.size m0 (updV (updV Fm0 0 (.int 0)) 0 (.int 2)) 2 rfl) (kR rfl) hP hD hS [6] [0, 1, 2, 3, 4, 5] rfl rfl rfl rfl (by decide) 0 12 rfl rfl rfl hl.1 rfl (Nat.le_of_ble_eq_true rfl) dL_law_2211 (fun rr127 uu128 H locs hw126 hP hD hS => ?_)
      obtain rfl : rr127 = 2 := hw126
      have hP : va_P G.1 vwCl [(aout, .inl (G.2.2.2.2, 1, .inr (.inl ((fun _ => 0))))), (x0, .inr (11, ofL 17 Fx0)), (x28, .inr (10, ofL 7 Fx28)), (x31, .inr (1, ofL 10 Fx31)), (x3, .inr (7, ofL 5 Fx3)), (x29, .inr (4, ofL 3 Fx29)), (m0, .inr (12, ofL 88 (updV (updV Fm0 0 (.int 0)) 0 (.int 2))))] H := hP
      have hD : va_D A [(aout, .inl (G.2.2.2.2, 1, .inr (.inl ((fun _ => 0))))), (x0, .inr (11, ofL 17 Fx0)), (x28, .inr (10, ofL 7 Fx28)), (x31, .inr (1, ofL 10 Fx31)), (x3, .inr (7, ofL 5 Fx3)), (x29, .inr (4, ofL 3 Fx29)), (m0, .inr (12, ofL 88 (updV (updV Fm0 0 (.int 0)) 0 (.int 2))))] := hD
      refine lv_iload hx hb dL_law_2214 (lv_at hl 1 rfl) ?_
      refine lv_icmp_eq (x := 2) (y := 2) (tgt := 2221) hx hb dL_law_2216 (by decide) (fun c_129 => ?_) (fun c_129 => ?_)
      rotate_left
      · exact absurd (by decide) c_129
      refine lv_iload hx hb dL_law_2221 (lv_at hl 1 rfl) ?_
      refine lv_if_ne (x := 2) (tgt := 2238) hx hb dL_law_2223 (by decide) (fun c_130 => ?_) (fun c_130 => ?_)
      rotate_left
      · exact absurd c_130 (by decide)
      refine lv_goto (tgt := 2265) hx hb dL_law_2238 (by decide) ?_
      exact law_end hst C0 hA C hS (lv_sub hl [2, 6] rfl) (Nat.le_of_ble_eq_true rfl) (Nat.le_of_ble_eq_true rfl)
    ·
      have hP : va_P G.1 vwCl [(aout, .inl (G.2.2.2.2, 1, .inr (.inl ((fun _ => 0))))), (x0, .inr (11, ofL 17 Fx0)), (x28, .inr (10, ofL 7 Fx28)), (x31, .inr (1, ofL 10 Fx31)), (x3, .inr (7, ofL 5 Fx3)), (x29, .inr (4, ofL 3 Fx29)), (m0, .inr (12, ofL 88 (updV Fm0 0 (.int 0))))] H := hP
      have hD : va_D A [(aout, .inl (G.2.2.2.2, 1, .inr (.inl ((fun _ => 0))))), (x0, .inr (11, ofL 17 Fx0)), (x28, .inr (10, ofL 7 Fx28)), (x31, .inr (1, ofL 10 Fx31)), (x3, .inr (7, ofL 5 Fx3)), (x29, .inr (4, ofL 3 Fx29)), (m0, .inr (12, ofL 88 (updV Fm0 0 (.int 0))))] := hD
      refine lv_istore (lv' := [(6, .int (-1)), (5, .int 2), (0, .ref b), (1, .ref x0), (2, .ref m0), (3, .ref aout), (4, .int 0)]) hx hb dL_law_2208 hl (by decide) rfl (fun ls hl => ?_)
      refine lv_aload_n hx hb dL_law_2210 rfl (lv_at hl 4 rfl) ?_
      refine k_callVi (wr := [(aout, .inl (G.2.2.2.2, 1, .inr (.inl ((fun _ => 0))))), (x0, .inr (11, ofL 17 Fx0)), (x28, .inr (10, ofL 7 Fx28)), (x31, .inr (1, ofL 10 Fx31)), (x3, .inr (7, ofL 5 Fx3)), (x29, .inr (4, ofL 3 Fx29))]) (rest := []) li_L_118 C (c_X12_thrown l G H.size m0 (updV Fm0 0 (.int 0)) 0 rfl) (kR rfl) hP hD hS [6] [0, 1, 2, 3, 4, 5] rfl rfl rfl rfl (by decide) 0 12 rfl rfl rfl hl.1 rfl (Nat.le_of_ble_eq_true rfl) dL_law_2211 (fun rr132 uu133 H locs hw131 hP hD hS => ?_)
      obtain rfl : rr132 = 0 := hw131
      have hP : va_P G.1 vwCl [(aout, .inl (G.2.2.2.2, 1, .inr (.inl ((fun _ => 0))))), (x0, .inr (11, ofL 17 Fx0)), (x28, .inr (10, ofL 7 Fx28)), (x31, .inr (1, ofL 10 Fx31)), (x3, .inr (7, ofL 5 Fx3)), (x29, .inr (4, ofL 3 Fx29)), (m0, .inr (12, ofL 88 (updV Fm0 0 (.int 0))))] H := hP
      have hD : va_D A [(aout, .inl (G.2.2.2.2, 1, .inr (.inl ((fun _ => 0))))), (x0, .inr (11, ofL 17 Fx0)), (x28, .inr (10, ofL 7 Fx28)), (x31, .inr (1, ofL 10 Fx31)), (x3, .inr (7, ofL 5 Fx3)), (x29, .inr (4, ofL 3 Fx29)), (m0, .inr (12, ofL 88 (updV Fm0 0 (.int 0))))] := hD
      refine lv_iload hx hb dL_law_2214 (lv_at hl 1 rfl) ?_
      refine lv_icmp_eq (x := 0) (y := 2) (tgt := 2221) hx hb dL_law_2216 (by decide) (fun c_134 => ?_) (fun c_134 => ?_)
      · exact absurd c_134 (by decide)
      refine lv_iconst (v := 0) hx hb dL_law_2219 (by decide) ?_
      exfalso
      have e9_0 : (0 : Int32).toInt = 0 := by decide
      have e9_1 : (1 : Int32).toInt = 1 := by decide
      have e9_2 : (2 : Int32).toInt = 2 := by decide
      have e9_30 : (30 : Int32).toInt = 30 := by decide
      simp only [Int32.lt_iff_toInt_lt, Int32.le_iff_toInt_le] at c_7 c_8 c_9 c_109 c_110 c_111 c_112
      omega
  ·
    have hP : va_P G.1 vwCl [(m0, .inr (12, ofL 88 Fm0)), (m12, .inl (G.2.1, 48, .inl (fun _ => 0))), (m42, .inl (G.2.1, 48, .inl (fun _ => 0))), (aout, .inl (G.2.2.2.2, 1, .inr (.inl ((fun _ => 0))))), (x0, .inr (11, ofL 17 Fx0)), (x28, .inr (10, ofL 7 Fx28)), (x31, .inr (1, ofL 10 Fx31)), (x3, .inr (7, ofL 5 Fx3)), (x29, .inr (4, ofL 3 Fx29))] H := hP
    have hD : va_D A [(m0, .inr (12, ofL 88 Fm0)), (m12, .inl (G.2.1, 48, .inl (fun _ => 0))), (m42, .inl (G.2.1, 48, .inl (fun _ => 0))), (aout, .inl (G.2.2.2.2, 1, .inr (.inl ((fun _ => 0))))), (x0, .inr (11, ofL 17 Fx0)), (x28, .inr (10, ofL 7 Fx28)), (x31, .inr (1, ofL 10 Fx31)), (x3, .inr (7, ofL 5 Fx3)), (x29, .inr (4, ofL 3 Fx29))] := hD
    refine lv_istore (lv' := [(5, .int 2), (0, .ref b), (1, .ref x0), (2, .ref m0), (3, .ref aout), (4, .int 0)]) hx hb dL_law_2190 hl (by decide) rfl (fun ls hl => ?_)
    refine lv_aload_n hx hb dL_law_2192 rfl (lv_at hl 3 rfl) ?_
    refine lv_aload_n hx hb dL_law_2193 rfl (lv_at hl 1 rfl) ?_
    refine lv_iload hx hb dL_law_2194 (lv_at hl 5 rfl) ?_
    refine lv_iconst (v := 1) hx hb dL_law_2196 (by decide) ?_
    refine lv_iadd hx hb dL_law_2197 ?_
    refine k_eqi (y := 1) (by decide) ?_
    refine va_sld hx hb hX hbl hbA hS (k_in (by decide)) dL_law_2198 ?_
    refine k_eqi (y := v1) hv1 ?_
    refine lv_aload_n hx hb dL_law_2199 rfl (lv_at hl 1 rfl) ?_
    refine lv_iload hx hb dL_law_2200 (lv_at hl 5 rfl) ?_
    refine lv_iconst (v := 2) hx hb dL_law_2202 (by decide) ?_
    refine lv_iadd hx hb dL_law_2203 ?_
    refine k_eqi (y := 2) (by decide) ?_
    refine va_sld hx hb hX hbl hbA hS (k_in (by decide)) dL_law_2204 ?_
    refine k_eqi (y := v2) hv2 ?_
    refine k_callVi (wr := [(aout, .inl (G.2.2.2.2, 1, .inr (.inl ((fun _ => 0))))), (x0, .inr (11, ofL 17 Fx0)), (x28, .inr (10, ofL 7 Fx28)), (x31, .inr (1, ofL 10 Fx31)), (x3, .inr (7, ofL 5 Fx3)), (x29, .inr (4, ofL 3 Fx29))]) (rest := []) li_L_238 C (c_X12_pause l G H.size m0 v1 v2 Fm0 m12 m42 (fun _ => 0) (fun _ => 0) e_m0_1 e_m0_16 e_m0_72) (kR rfl) hP hD hS [0, 1, 2] [3, 4, 5, 6, 7, 8] rfl rfl rfl rfl (by decide) 0 12 rfl rfl rfl hl.1 rfl (Nat.le_of_ble_eq_true rfl) dL_law_2205 (fun rr136 uu137 H locs hw135 hP hD hS => ?_)
    rcases hw135 with ⟨rfl, rfl, c_138⟩ | ⟨rfl, rfl, c_139, c_140⟩ | ⟨rfl, rfl, c_141, c_142, c_143⟩ | ⟨rfl, rfl, c_144, c_145, c_146, c_147⟩ | ⟨rfl, rfl, c_148, c_149, c_150, c_151⟩
    ·
      have hP : va_P G.1 vwCl [(aout, .inl (G.2.2.2.2, 1, .inr (.inl ((fun _ => 0))))), (x0, .inr (11, ofL 17 Fx0)), (x28, .inr (10, ofL 7 Fx28)), (x31, .inr (1, ofL 10 Fx31)), (x3, .inr (7, ofL 5 Fx3)), (x29, .inr (4, ofL 3 Fx29)), (m0, .inr (12, ofL 88 (updV (updV Fm0 0 (.int 0)) 0 (.int 1))))] H := hP
      have hD : va_D A [(aout, .inl (G.2.2.2.2, 1, .inr (.inl ((fun _ => 0))))), (x0, .inr (11, ofL 17 Fx0)), (x28, .inr (10, ofL 7 Fx28)), (x31, .inr (1, ofL 10 Fx31)), (x3, .inr (7, ofL 5 Fx3)), (x29, .inr (4, ofL 3 Fx29)), (m0, .inr (12, ofL 88 (updV (updV Fm0 0 (.int 0)) 0 (.int 1))))] := hD
      refine lv_istore (lv' := [(6, .int 0), (5, .int 2), (0, .ref b), (1, .ref x0), (2, .ref m0), (3, .ref aout), (4, .int 0)]) hx hb dL_law_2208 hl (by decide) rfl (fun ls hl => ?_)
      refine lv_aload_n hx hb dL_law_2210 rfl (lv_at hl 4 rfl) ?_
      refine k_callVi (wr := [(aout, .inl (G.2.2.2.2, 1, .inr (.inl ((fun _ => 0))))), (x0, .inr (11, ofL 17 Fx0)), (x28, .inr (10, ofL 7 Fx28)), (x31, .inr (1, ofL 10 Fx31)), (x3, .inr (7, ofL 5 Fx3)), (x29, .inr (4, ofL 3 Fx29))]) (rest := []) li_L_118 C (c_X12_thrown l G H.size m0 (updV (updV Fm0 0 (.int 0)) 0 (.int 1)) 1 rfl) (kR rfl) hP hD hS [6] [0, 1, 2, 3, 4, 5] rfl rfl rfl rfl (by decide) 0 12 rfl rfl rfl hl.1 rfl (Nat.le_of_ble_eq_true rfl) dL_law_2211 (fun rr153 uu154 H locs hw152 hP hD hS => ?_)
      obtain rfl : rr153 = 1 := hw152
      have hP : va_P G.1 vwCl [(aout, .inl (G.2.2.2.2, 1, .inr (.inl ((fun _ => 0))))), (x0, .inr (11, ofL 17 Fx0)), (x28, .inr (10, ofL 7 Fx28)), (x31, .inr (1, ofL 10 Fx31)), (x3, .inr (7, ofL 5 Fx3)), (x29, .inr (4, ofL 3 Fx29)), (m0, .inr (12, ofL 88 (updV (updV Fm0 0 (.int 0)) 0 (.int 1))))] H := hP
      have hD : va_D A [(aout, .inl (G.2.2.2.2, 1, .inr (.inl ((fun _ => 0))))), (x0, .inr (11, ofL 17 Fx0)), (x28, .inr (10, ofL 7 Fx28)), (x31, .inr (1, ofL 10 Fx31)), (x3, .inr (7, ofL 5 Fx3)), (x29, .inr (4, ofL 3 Fx29)), (m0, .inr (12, ofL 88 (updV (updV Fm0 0 (.int 0)) 0 (.int 1))))] := hD
      refine lv_iload hx hb dL_law_2214 (lv_at hl 1 rfl) ?_
      refine lv_icmp_eq (x := 1) (y := 2) (tgt := 2221) hx hb dL_law_2216 (by decide) (fun c_155 => ?_) (fun c_155 => ?_)
      · exact absurd c_155 (by decide)
      refine lv_iconst (v := 0) hx hb dL_law_2219 (by decide) ?_
      exfalso
      have e9_0 : (0 : Int32).toInt = 0 := by decide
      have e9_1 : (1 : Int32).toInt = 1 := by decide
      have e9_2 : (2 : Int32).toInt = 2 := by decide
      have e9_30 : (30 : Int32).toInt = 30 := by decide
      simp only [Int32.lt_iff_toInt_lt, Int32.le_iff_toInt_le] at c_10 c_11 c_12 c_13 c_138
      omega
    ·
      have hP : va_P G.1 vwCl [(aout, .inl (G.2.2.2.2, 1, .inr (.inl ((fun _ => 0))))), (x0, .inr (11, ofL 17 Fx0)), (x28, .inr (10, ofL 7 Fx28)), (x31, .inr (1, ofL 10 Fx31)), (x3, .inr (7, ofL 5 Fx3)), (x29, .inr (4, ofL 3 Fx29)), (m0, .inr (12, ofL 88 (updV (updV Fm0 0 (.int 0)) 0 (.int 1))))] H := hP
      have hD : va_D A [(aout, .inl (G.2.2.2.2, 1, .inr (.inl ((fun _ => 0))))), (x0, .inr (11, ofL 17 Fx0)), (x28, .inr (10, ofL 7 Fx28)), (x31, .inr (1, ofL 10 Fx31)), (x3, .inr (7, ofL 5 Fx3)), (x29, .inr (4, ofL 3 Fx29)), (m0, .inr (12, ofL 88 (updV (updV Fm0 0 (.int 0)) 0 (.int 1))))] := hD
      refine lv_istore (lv' := [(6, .int 0), (5, .int 2), (0, .ref b), (1, .ref x0), (2, .ref m0), (3, .ref aout), (4, .int 0)]) hx hb dL_law_2208 hl (by decide) rfl (fun ls hl => ?_)
      refine lv_aload_n hx hb dL_law_2210 rfl (lv_at hl 4 rfl) ?_
      refine k_callVi (wr := [(aout, .inl (G.2.2.2.2, 1, .inr (.inl ((fun _ => 0))))), (x0, .inr (11, ofL 17 Fx0)), (x28, .inr (10, ofL 7 Fx28)), (x31, .inr (1, ofL 10 Fx31)), (x3, .inr (7, ofL 5 Fx3)), (x29, .inr (4, ofL 3 Fx29))]) (rest := []) li_L_118 C (c_X12_thrown l G H.size m0 (updV (updV Fm0 0 (.int 0)) 0 (.int 1)) 1 rfl) (kR rfl) hP hD hS [6] [0, 1, 2, 3, 4, 5] rfl rfl rfl rfl (by decide) 0 12 rfl rfl rfl hl.1 rfl (Nat.le_of_ble_eq_true rfl) dL_law_2211 (fun rr157 uu158 H locs hw156 hP hD hS => ?_)
      obtain rfl : rr157 = 1 := hw156
      have hP : va_P G.1 vwCl [(aout, .inl (G.2.2.2.2, 1, .inr (.inl ((fun _ => 0))))), (x0, .inr (11, ofL 17 Fx0)), (x28, .inr (10, ofL 7 Fx28)), (x31, .inr (1, ofL 10 Fx31)), (x3, .inr (7, ofL 5 Fx3)), (x29, .inr (4, ofL 3 Fx29)), (m0, .inr (12, ofL 88 (updV (updV Fm0 0 (.int 0)) 0 (.int 1))))] H := hP
      have hD : va_D A [(aout, .inl (G.2.2.2.2, 1, .inr (.inl ((fun _ => 0))))), (x0, .inr (11, ofL 17 Fx0)), (x28, .inr (10, ofL 7 Fx28)), (x31, .inr (1, ofL 10 Fx31)), (x3, .inr (7, ofL 5 Fx3)), (x29, .inr (4, ofL 3 Fx29)), (m0, .inr (12, ofL 88 (updV (updV Fm0 0 (.int 0)) 0 (.int 1))))] := hD
      refine lv_iload hx hb dL_law_2214 (lv_at hl 1 rfl) ?_
      refine lv_icmp_eq (x := 1) (y := 2) (tgt := 2221) hx hb dL_law_2216 (by decide) (fun c_159 => ?_) (fun c_159 => ?_)
      · exact absurd c_159 (by decide)
      refine lv_iconst (v := 0) hx hb dL_law_2219 (by decide) ?_
      exfalso
      have e9_0 : (0 : Int32).toInt = 0 := by decide
      have e9_1 : (1 : Int32).toInt = 1 := by decide
      have e9_2 : (2 : Int32).toInt = 2 := by decide
      have e9_30 : (30 : Int32).toInt = 30 := by decide
      simp only [Int32.lt_iff_toInt_lt, Int32.le_iff_toInt_le] at c_10 c_11 c_12 c_13 c_139 c_140
      omega
    ·
      have hP : va_P G.1 vwCl [(aout, .inl (G.2.2.2.2, 1, .inr (.inl ((fun _ => 0))))), (x0, .inr (11, ofL 17 Fx0)), (x28, .inr (10, ofL 7 Fx28)), (x31, .inr (1, ofL 10 Fx31)), (x3, .inr (7, ofL 5 Fx3)), (x29, .inr (4, ofL 3 Fx29)), (m0, .inr (12, ofL 88 (updV (updV Fm0 0 (.int 0)) 0 (.int 2))))] H := hP
      have hD : va_D A [(aout, .inl (G.2.2.2.2, 1, .inr (.inl ((fun _ => 0))))), (x0, .inr (11, ofL 17 Fx0)), (x28, .inr (10, ofL 7 Fx28)), (x31, .inr (1, ofL 10 Fx31)), (x3, .inr (7, ofL 5 Fx3)), (x29, .inr (4, ofL 3 Fx29)), (m0, .inr (12, ofL 88 (updV (updV Fm0 0 (.int 0)) 0 (.int 2))))] := hD
      refine lv_istore (lv' := [(6, .int 0), (5, .int 2), (0, .ref b), (1, .ref x0), (2, .ref m0), (3, .ref aout), (4, .int 0)]) hx hb dL_law_2208 hl (by decide) rfl (fun ls hl => ?_)
      refine lv_aload_n hx hb dL_law_2210 rfl (lv_at hl 4 rfl) ?_
      refine k_callVi (wr := [(aout, .inl (G.2.2.2.2, 1, .inr (.inl ((fun _ => 0))))), (x0, .inr (11, ofL 17 Fx0)), (x28, .inr (10, ofL 7 Fx28)), (x31, .inr (1, ofL 10 Fx31)), (x3, .inr (7, ofL 5 Fx3)), (x29, .inr (4, ofL 3 Fx29))]) (rest := []) li_L_118 C (c_X12_thrown l G H.size m0 (updV (updV Fm0 0 (.int 0)) 0 (.int 2)) 2 rfl) (kR rfl) hP hD hS [6] [0, 1, 2, 3, 4, 5] rfl rfl rfl rfl (by decide) 0 12 rfl rfl rfl hl.1 rfl (Nat.le_of_ble_eq_true rfl) dL_law_2211 (fun rr161 uu162 H locs hw160 hP hD hS => ?_)
      obtain rfl : rr161 = 2 := hw160
      have hP : va_P G.1 vwCl [(aout, .inl (G.2.2.2.2, 1, .inr (.inl ((fun _ => 0))))), (x0, .inr (11, ofL 17 Fx0)), (x28, .inr (10, ofL 7 Fx28)), (x31, .inr (1, ofL 10 Fx31)), (x3, .inr (7, ofL 5 Fx3)), (x29, .inr (4, ofL 3 Fx29)), (m0, .inr (12, ofL 88 (updV (updV Fm0 0 (.int 0)) 0 (.int 2))))] H := hP
      have hD : va_D A [(aout, .inl (G.2.2.2.2, 1, .inr (.inl ((fun _ => 0))))), (x0, .inr (11, ofL 17 Fx0)), (x28, .inr (10, ofL 7 Fx28)), (x31, .inr (1, ofL 10 Fx31)), (x3, .inr (7, ofL 5 Fx3)), (x29, .inr (4, ofL 3 Fx29)), (m0, .inr (12, ofL 88 (updV (updV Fm0 0 (.int 0)) 0 (.int 2))))] := hD
      refine lv_iload hx hb dL_law_2214 (lv_at hl 1 rfl) ?_
      refine lv_icmp_eq (x := 2) (y := 2) (tgt := 2221) hx hb dL_law_2216 (by decide) (fun c_163 => ?_) (fun c_163 => ?_)
      rotate_left
      · exact absurd (by decide) c_163
      refine lv_iload hx hb dL_law_2221 (lv_at hl 1 rfl) ?_
      refine lv_if_ne (x := 2) (tgt := 2238) hx hb dL_law_2223 (by decide) (fun c_164 => ?_) (fun c_164 => ?_)
      rotate_left
      · exact absurd c_164 (by decide)
      refine lv_goto (tgt := 2265) hx hb dL_law_2238 (by decide) ?_
      exact law_end hst C0 hA C hS (lv_sub hl [2, 6] rfl) (Nat.le_of_ble_eq_true rfl) (Nat.le_of_ble_eq_true rfl)
    ·
      have hP : va_P G.1 vwCl [(aout, .inl (G.2.2.2.2, 1, .inr (.inl ((fun _ => 0))))), (x0, .inr (11, ofL 17 Fx0)), (x28, .inr (10, ofL 7 Fx28)), (x31, .inr (1, ofL 10 Fx31)), (x3, .inr (7, ofL 5 Fx3)), (x29, .inr (4, ofL 3 Fx29)), (m0, .inr (12, ofL 88 (updV (updV Fm0 0 (.int 0)) 0 (.int 2))))] H := hP
      have hD : va_D A [(aout, .inl (G.2.2.2.2, 1, .inr (.inl ((fun _ => 0))))), (x0, .inr (11, ofL 17 Fx0)), (x28, .inr (10, ofL 7 Fx28)), (x31, .inr (1, ofL 10 Fx31)), (x3, .inr (7, ofL 5 Fx3)), (x29, .inr (4, ofL 3 Fx29)), (m0, .inr (12, ofL 88 (updV (updV Fm0 0 (.int 0)) 0 (.int 2))))] := hD
      refine lv_istore (lv' := [(6, .int 0), (5, .int 2), (0, .ref b), (1, .ref x0), (2, .ref m0), (3, .ref aout), (4, .int 0)]) hx hb dL_law_2208 hl (by decide) rfl (fun ls hl => ?_)
      refine lv_aload_n hx hb dL_law_2210 rfl (lv_at hl 4 rfl) ?_
      refine k_callVi (wr := [(aout, .inl (G.2.2.2.2, 1, .inr (.inl ((fun _ => 0))))), (x0, .inr (11, ofL 17 Fx0)), (x28, .inr (10, ofL 7 Fx28)), (x31, .inr (1, ofL 10 Fx31)), (x3, .inr (7, ofL 5 Fx3)), (x29, .inr (4, ofL 3 Fx29))]) (rest := []) li_L_118 C (c_X12_thrown l G H.size m0 (updV (updV Fm0 0 (.int 0)) 0 (.int 2)) 2 rfl) (kR rfl) hP hD hS [6] [0, 1, 2, 3, 4, 5] rfl rfl rfl rfl (by decide) 0 12 rfl rfl rfl hl.1 rfl (Nat.le_of_ble_eq_true rfl) dL_law_2211 (fun rr166 uu167 H locs hw165 hP hD hS => ?_)
      obtain rfl : rr166 = 2 := hw165
      have hP : va_P G.1 vwCl [(aout, .inl (G.2.2.2.2, 1, .inr (.inl ((fun _ => 0))))), (x0, .inr (11, ofL 17 Fx0)), (x28, .inr (10, ofL 7 Fx28)), (x31, .inr (1, ofL 10 Fx31)), (x3, .inr (7, ofL 5 Fx3)), (x29, .inr (4, ofL 3 Fx29)), (m0, .inr (12, ofL 88 (updV (updV Fm0 0 (.int 0)) 0 (.int 2))))] H := hP
      have hD : va_D A [(aout, .inl (G.2.2.2.2, 1, .inr (.inl ((fun _ => 0))))), (x0, .inr (11, ofL 17 Fx0)), (x28, .inr (10, ofL 7 Fx28)), (x31, .inr (1, ofL 10 Fx31)), (x3, .inr (7, ofL 5 Fx3)), (x29, .inr (4, ofL 3 Fx29)), (m0, .inr (12, ofL 88 (updV (updV Fm0 0 (.int 0)) 0 (.int 2))))] := hD
      refine lv_iload hx hb dL_law_2214 (lv_at hl 1 rfl) ?_
      refine lv_icmp_eq (x := 2) (y := 2) (tgt := 2221) hx hb dL_law_2216 (by decide) (fun c_168 => ?_) (fun c_168 => ?_)
      rotate_left
      · exact absurd (by decide) c_168
      refine lv_iload hx hb dL_law_2221 (lv_at hl 1 rfl) ?_
      refine lv_if_ne (x := 2) (tgt := 2238) hx hb dL_law_2223 (by decide) (fun c_169 => ?_) (fun c_169 => ?_)
      rotate_left
      · exact absurd c_169 (by decide)
      refine lv_goto (tgt := 2265) hx hb dL_law_2238 (by decide) ?_
      exact law_end hst C0 hA C hS (lv_sub hl [2, 6] rfl) (Nat.le_of_ble_eq_true rfl) (Nat.le_of_ble_eq_true rfl)
    ·
      have hP : va_P G.1 vwCl [(aout, .inl (G.2.2.2.2, 1, .inr (.inl ((fun _ => 0))))), (x0, .inr (11, ofL 17 Fx0)), (x28, .inr (10, ofL 7 Fx28)), (x31, .inr (1, ofL 10 Fx31)), (x3, .inr (7, ofL 5 Fx3)), (x29, .inr (4, ofL 3 Fx29)), (m0, .inr (12, ofL 88 (updV Fm0 0 (.int 0))))] H := hP
      have hD : va_D A [(aout, .inl (G.2.2.2.2, 1, .inr (.inl ((fun _ => 0))))), (x0, .inr (11, ofL 17 Fx0)), (x28, .inr (10, ofL 7 Fx28)), (x31, .inr (1, ofL 10 Fx31)), (x3, .inr (7, ofL 5 Fx3)), (x29, .inr (4, ofL 3 Fx29)), (m0, .inr (12, ofL 88 (updV Fm0 0 (.int 0))))] := hD
      refine lv_istore (lv' := [(6, .int (-1)), (5, .int 2), (0, .ref b), (1, .ref x0), (2, .ref m0), (3, .ref aout), (4, .int 0)]) hx hb dL_law_2208 hl (by decide) rfl (fun ls hl => ?_)
      refine lv_aload_n hx hb dL_law_2210 rfl (lv_at hl 4 rfl) ?_
      refine k_callVi (wr := [(aout, .inl (G.2.2.2.2, 1, .inr (.inl ((fun _ => 0))))), (x0, .inr (11, ofL 17 Fx0)), (x28, .inr (10, ofL 7 Fx28)), (x31, .inr (1, ofL 10 Fx31)), (x3, .inr (7, ofL 5 Fx3)), (x29, .inr (4, ofL 3 Fx29))]) (rest := []) li_L_118 C (c_X12_thrown l G H.size m0 (updV Fm0 0 (.int 0)) 0 rfl) (kR rfl) hP hD hS [6] [0, 1, 2, 3, 4, 5] rfl rfl rfl rfl (by decide) 0 12 rfl rfl rfl hl.1 rfl (Nat.le_of_ble_eq_true rfl) dL_law_2211 (fun rr171 uu172 H locs hw170 hP hD hS => ?_)
      obtain rfl : rr171 = 0 := hw170
      have hP : va_P G.1 vwCl [(aout, .inl (G.2.2.2.2, 1, .inr (.inl ((fun _ => 0))))), (x0, .inr (11, ofL 17 Fx0)), (x28, .inr (10, ofL 7 Fx28)), (x31, .inr (1, ofL 10 Fx31)), (x3, .inr (7, ofL 5 Fx3)), (x29, .inr (4, ofL 3 Fx29)), (m0, .inr (12, ofL 88 (updV Fm0 0 (.int 0))))] H := hP
      have hD : va_D A [(aout, .inl (G.2.2.2.2, 1, .inr (.inl ((fun _ => 0))))), (x0, .inr (11, ofL 17 Fx0)), (x28, .inr (10, ofL 7 Fx28)), (x31, .inr (1, ofL 10 Fx31)), (x3, .inr (7, ofL 5 Fx3)), (x29, .inr (4, ofL 3 Fx29)), (m0, .inr (12, ofL 88 (updV Fm0 0 (.int 0))))] := hD
      refine lv_iload hx hb dL_law_2214 (lv_at hl 1 rfl) ?_
      refine lv_icmp_eq (x := 0) (y := 2) (tgt := 2221) hx hb dL_law_2216 (by decide) (fun c_173 => ?_) (fun c_173 => ?_)
      · exact absurd c_173 (by decide)
      refine lv_iconst (v := 0) hx hb dL_law_2219 (by decide) ?_
      exfalso
      have e9_0 : (0 : Int32).toInt = 0 := by decide
      have e9_1 : (1 : Int32).toInt = 1 := by decide
      have e9_2 : (2 : Int32).toInt = 2 := by decide
      have e9_30 : (30 : Int32).toInt = 30 := by decide
      simp only [Int32.lt_iff_toInt_lt, Int32.le_iff_toInt_le] at c_10 c_11 c_12 c_13 c_148 c_149 c_150 c_151
      omega
  ·
    have hP : va_P G.1 vwCl [(m0, .inr (12, ofL 88 Fm0)), (m12, .inl (G.2.1, 48, .inl (fun _ => 0))), (m42, .inl (G.2.1, 48, .inl (fun _ => 0))), (aout, .inl (G.2.2.2.2, 1, .inr (.inl (vp_updL (fun _ => 0) 0 (-1))))), (x0, .inr (11, ofL 17 Fx0)), (x28, .inr (10, ofL 7 Fx28)), (x31, .inr (1, ofL 10 Fx31)), (x3, .inr (7, ofL 5 Fx3)), (x29, .inr (4, ofL 3 (updV Fx29 0 (.int 0))))] H := hP
    have hD : va_D A [(m0, .inr (12, ofL 88 Fm0)), (m12, .inl (G.2.1, 48, .inl (fun _ => 0))), (m42, .inl (G.2.1, 48, .inl (fun _ => 0))), (aout, .inl (G.2.2.2.2, 1, .inr (.inl (vp_updL (fun _ => 0) 0 (-1))))), (x0, .inr (11, ofL 17 Fx0)), (x28, .inr (10, ofL 7 Fx28)), (x31, .inr (1, ofL 10 Fx31)), (x3, .inr (7, ofL 5 Fx3)), (x29, .inr (4, ofL 3 (updV Fx29 0 (.int 0))))] := hD
    refine lv_istore (lv' := [(5, .int 0), (0, .ref b), (1, .ref x0), (2, .ref m0), (3, .ref aout), (4, .int 0)]) hx hb dL_law_2190 hl (by decide) rfl (fun ls hl => ?_)
    refine lv_aload_n hx hb dL_law_2192 rfl (lv_at hl 3 rfl) ?_
    refine lv_aload_n hx hb dL_law_2193 rfl (lv_at hl 1 rfl) ?_
    refine lv_iload hx hb dL_law_2194 (lv_at hl 5 rfl) ?_
    refine lv_iconst (v := 1) hx hb dL_law_2196 (by decide) ?_
    refine lv_iadd hx hb dL_law_2197 ?_
    refine k_eqi (y := 1) (by decide) ?_
    refine va_sld hx hb hX hbl hbA hS (k_in (by decide)) dL_law_2198 ?_
    refine k_eqi (y := v1) hv1 ?_
    refine lv_aload_n hx hb dL_law_2199 rfl (lv_at hl 1 rfl) ?_
    refine lv_iload hx hb dL_law_2200 (lv_at hl 5 rfl) ?_
    refine lv_iconst (v := 2) hx hb dL_law_2202 (by decide) ?_
    refine lv_iadd hx hb dL_law_2203 ?_
    refine k_eqi (y := 2) (by decide) ?_
    refine va_sld hx hb hX hbl hbA hS (k_in (by decide)) dL_law_2204 ?_
    refine k_eqi (y := v2) hv2 ?_
    refine k_callVi (wr := [(aout, .inl (G.2.2.2.2, 1, .inr (.inl (vp_updL (fun _ => 0) 0 (-1))))), (x0, .inr (11, ofL 17 Fx0)), (x28, .inr (10, ofL 7 Fx28)), (x31, .inr (1, ofL 10 Fx31)), (x3, .inr (7, ofL 5 Fx3)), (x29, .inr (4, ofL 3 (updV Fx29 0 (.int 0))))]) (rest := []) li_L_238 C (c_X12_pause l G H.size m0 v1 v2 Fm0 m12 m42 (fun _ => 0) (fun _ => 0) e_m0_1 e_m0_16 e_m0_72) (kR rfl) hP hD hS [0, 1, 2] [3, 4, 5, 6, 7, 8] rfl rfl rfl rfl (by decide) 0 12 rfl rfl rfl hl.1 rfl (Nat.le_of_ble_eq_true rfl) dL_law_2205 (fun rr175 uu176 H locs hw174 hP hD hS => ?_)
    rcases hw174 with ⟨rfl, rfl, c_177⟩ | ⟨rfl, rfl, c_178, c_179⟩ | ⟨rfl, rfl, c_180, c_181, c_182⟩ | ⟨rfl, rfl, c_183, c_184, c_185, c_186⟩ | ⟨rfl, rfl, c_187, c_188, c_189, c_190⟩
    ·
      have hP : va_P G.1 vwCl [(aout, .inl (G.2.2.2.2, 1, .inr (.inl (vp_updL (fun _ => 0) 0 (-1))))), (x0, .inr (11, ofL 17 Fx0)), (x28, .inr (10, ofL 7 Fx28)), (x31, .inr (1, ofL 10 Fx31)), (x3, .inr (7, ofL 5 Fx3)), (x29, .inr (4, ofL 3 (updV Fx29 0 (.int 0)))), (m0, .inr (12, ofL 88 (updV (updV Fm0 0 (.int 0)) 0 (.int 1))))] H := hP
      have hD : va_D A [(aout, .inl (G.2.2.2.2, 1, .inr (.inl (vp_updL (fun _ => 0) 0 (-1))))), (x0, .inr (11, ofL 17 Fx0)), (x28, .inr (10, ofL 7 Fx28)), (x31, .inr (1, ofL 10 Fx31)), (x3, .inr (7, ofL 5 Fx3)), (x29, .inr (4, ofL 3 (updV Fx29 0 (.int 0)))), (m0, .inr (12, ofL 88 (updV (updV Fm0 0 (.int 0)) 0 (.int 1))))] := hD
      refine lv_istore (lv' := [(6, .int 0), (5, .int 0), (0, .ref b), (1, .ref x0), (2, .ref m0), (3, .ref aout), (4, .int 0)]) hx hb dL_law_2208 hl (by decide) rfl (fun ls hl => ?_)
      refine lv_aload_n hx hb dL_law_2210 rfl (lv_at hl 4 rfl) ?_
      refine k_callVi (wr := [(aout, .inl (G.2.2.2.2, 1, .inr (.inl (vp_updL (fun _ => 0) 0 (-1))))), (x0, .inr (11, ofL 17 Fx0)), (x28, .inr (10, ofL 7 Fx28)), (x31, .inr (1, ofL 10 Fx31)), (x3, .inr (7, ofL 5 Fx3)), (x29, .inr (4, ofL 3 (updV Fx29 0 (.int 0))))]) (rest := []) li_L_118 C (c_X12_thrown l G H.size m0 (updV (updV Fm0 0 (.int 0)) 0 (.int 1)) 1 rfl) (kR rfl) hP hD hS [6] [0, 1, 2, 3, 4, 5] rfl rfl rfl rfl (by decide) 0 12 rfl rfl rfl hl.1 rfl (Nat.le_of_ble_eq_true rfl) dL_law_2211 (fun rr192 uu193 H locs hw191 hP hD hS => ?_)
      obtain rfl : rr192 = 1 := hw191
      have hP : va_P G.1 vwCl [(aout, .inl (G.2.2.2.2, 1, .inr (.inl (vp_updL (fun _ => 0) 0 (-1))))), (x0, .inr (11, ofL 17 Fx0)), (x28, .inr (10, ofL 7 Fx28)), (x31, .inr (1, ofL 10 Fx31)), (x3, .inr (7, ofL 5 Fx3)), (x29, .inr (4, ofL 3 (updV Fx29 0 (.int 0)))), (m0, .inr (12, ofL 88 (updV (updV Fm0 0 (.int 0)) 0 (.int 1))))] H := hP
      have hD : va_D A [(aout, .inl (G.2.2.2.2, 1, .inr (.inl (vp_updL (fun _ => 0) 0 (-1))))), (x0, .inr (11, ofL 17 Fx0)), (x28, .inr (10, ofL 7 Fx28)), (x31, .inr (1, ofL 10 Fx31)), (x3, .inr (7, ofL 5 Fx3)), (x29, .inr (4, ofL 3 (updV Fx29 0 (.int 0)))), (m0, .inr (12, ofL 88 (updV (updV Fm0 0 (.int 0)) 0 (.int 1))))] := hD
      refine lv_iload hx hb dL_law_2214 (lv_at hl 1 rfl) ?_
      refine lv_icmp_eq (x := 1) (y := 0) (tgt := 2221) hx hb dL_law_2216 (by decide) (fun c_194 => ?_) (fun c_194 => ?_)
      · exact absurd c_194 (by decide)
      refine lv_iconst (v := 0) hx hb dL_law_2219 (by decide) ?_
      exfalso
      have e9_0 : (0 : Int32).toInt = 0 := by decide
      have e9_1 : (1 : Int32).toInt = 1 := by decide
      have e9_2 : (2 : Int32).toInt = 2 := by decide
      have e9_30 : (30 : Int32).toInt = 30 := by decide
      simp only [Int32.lt_iff_toInt_lt, Int32.le_iff_toInt_le] at c_14 c_15 c_16 c_17 c_177
      omega
    ·
      have hP : va_P G.1 vwCl [(aout, .inl (G.2.2.2.2, 1, .inr (.inl (vp_updL (fun _ => 0) 0 (-1))))), (x0, .inr (11, ofL 17 Fx0)), (x28, .inr (10, ofL 7 Fx28)), (x31, .inr (1, ofL 10 Fx31)), (x3, .inr (7, ofL 5 Fx3)), (x29, .inr (4, ofL 3 (updV Fx29 0 (.int 0)))), (m0, .inr (12, ofL 88 (updV (updV Fm0 0 (.int 0)) 0 (.int 1))))] H := hP
      have hD : va_D A [(aout, .inl (G.2.2.2.2, 1, .inr (.inl (vp_updL (fun _ => 0) 0 (-1))))), (x0, .inr (11, ofL 17 Fx0)), (x28, .inr (10, ofL 7 Fx28)), (x31, .inr (1, ofL 10 Fx31)), (x3, .inr (7, ofL 5 Fx3)), (x29, .inr (4, ofL 3 (updV Fx29 0 (.int 0)))), (m0, .inr (12, ofL 88 (updV (updV Fm0 0 (.int 0)) 0 (.int 1))))] := hD
      refine lv_istore (lv' := [(6, .int 0), (5, .int 0), (0, .ref b), (1, .ref x0), (2, .ref m0), (3, .ref aout), (4, .int 0)]) hx hb dL_law_2208 hl (by decide) rfl (fun ls hl => ?_)
      refine lv_aload_n hx hb dL_law_2210 rfl (lv_at hl 4 rfl) ?_
      refine k_callVi (wr := [(aout, .inl (G.2.2.2.2, 1, .inr (.inl (vp_updL (fun _ => 0) 0 (-1))))), (x0, .inr (11, ofL 17 Fx0)), (x28, .inr (10, ofL 7 Fx28)), (x31, .inr (1, ofL 10 Fx31)), (x3, .inr (7, ofL 5 Fx3)), (x29, .inr (4, ofL 3 (updV Fx29 0 (.int 0))))]) (rest := []) li_L_118 C (c_X12_thrown l G H.size m0 (updV (updV Fm0 0 (.int 0)) 0 (.int 1)) 1 rfl) (kR rfl) hP hD hS [6] [0, 1, 2, 3, 4, 5] rfl rfl rfl rfl (by decide) 0 12 rfl rfl rfl hl.1 rfl (Nat.le_of_ble_eq_true rfl) dL_law_2211 (fun rr196 uu197 H locs hw195 hP hD hS => ?_)
      obtain rfl : rr196 = 1 := hw195
      have hP : va_P G.1 vwCl [(aout, .inl (G.2.2.2.2, 1, .inr (.inl (vp_updL (fun _ => 0) 0 (-1))))), (x0, .inr (11, ofL 17 Fx0)), (x28, .inr (10, ofL 7 Fx28)), (x31, .inr (1, ofL 10 Fx31)), (x3, .inr (7, ofL 5 Fx3)), (x29, .inr (4, ofL 3 (updV Fx29 0 (.int 0)))), (m0, .inr (12, ofL 88 (updV (updV Fm0 0 (.int 0)) 0 (.int 1))))] H := hP
      have hD : va_D A [(aout, .inl (G.2.2.2.2, 1, .inr (.inl (vp_updL (fun _ => 0) 0 (-1))))), (x0, .inr (11, ofL 17 Fx0)), (x28, .inr (10, ofL 7 Fx28)), (x31, .inr (1, ofL 10 Fx31)), (x3, .inr (7, ofL 5 Fx3)), (x29, .inr (4, ofL 3 (updV Fx29 0 (.int 0)))), (m0, .inr (12, ofL 88 (updV (updV Fm0 0 (.int 0)) 0 (.int 1))))] := hD
      refine lv_iload hx hb dL_law_2214 (lv_at hl 1 rfl) ?_
      refine lv_icmp_eq (x := 1) (y := 0) (tgt := 2221) hx hb dL_law_2216 (by decide) (fun c_198 => ?_) (fun c_198 => ?_)
      · exact absurd c_198 (by decide)
      refine lv_iconst (v := 0) hx hb dL_law_2219 (by decide) ?_
      exfalso
      have e9_0 : (0 : Int32).toInt = 0 := by decide
      have e9_1 : (1 : Int32).toInt = 1 := by decide
      have e9_2 : (2 : Int32).toInt = 2 := by decide
      have e9_30 : (30 : Int32).toInt = 30 := by decide
      simp only [Int32.lt_iff_toInt_lt, Int32.le_iff_toInt_le] at c_14 c_15 c_16 c_17 c_178 c_179
      omega
    ·
      have hP : va_P G.1 vwCl [(aout, .inl (G.2.2.2.2, 1, .inr (.inl (vp_updL (fun _ => 0) 0 (-1))))), (x0, .inr (11, ofL 17 Fx0)), (x28, .inr (10, ofL 7 Fx28)), (x31, .inr (1, ofL 10 Fx31)), (x3, .inr (7, ofL 5 Fx3)), (x29, .inr (4, ofL 3 (updV Fx29 0 (.int 0)))), (m0, .inr (12, ofL 88 (updV (updV Fm0 0 (.int 0)) 0 (.int 2))))] H := hP
      have hD : va_D A [(aout, .inl (G.2.2.2.2, 1, .inr (.inl (vp_updL (fun _ => 0) 0 (-1))))), (x0, .inr (11, ofL 17 Fx0)), (x28, .inr (10, ofL 7 Fx28)), (x31, .inr (1, ofL 10 Fx31)), (x3, .inr (7, ofL 5 Fx3)), (x29, .inr (4, ofL 3 (updV Fx29 0 (.int 0)))), (m0, .inr (12, ofL 88 (updV (updV Fm0 0 (.int 0)) 0 (.int 2))))] := hD
      refine lv_istore (lv' := [(6, .int 0), (5, .int 0), (0, .ref b), (1, .ref x0), (2, .ref m0), (3, .ref aout), (4, .int 0)]) hx hb dL_law_2208 hl (by decide) rfl (fun ls hl => ?_)
      refine lv_aload_n hx hb dL_law_2210 rfl (lv_at hl 4 rfl) ?_
      refine k_callVi (wr := [(aout, .inl (G.2.2.2.2, 1, .inr (.inl (vp_updL (fun _ => 0) 0 (-1))))), (x0, .inr (11, ofL 17 Fx0)), (x28, .inr (10, ofL 7 Fx28)), (x31, .inr (1, ofL 10 Fx31)), (x3, .inr (7, ofL 5 Fx3)), (x29, .inr (4, ofL 3 (updV Fx29 0 (.int 0))))]) (rest := []) li_L_118 C (c_X12_thrown l G H.size m0 (updV (updV Fm0 0 (.int 0)) 0 (.int 2)) 2 rfl) (kR rfl) hP hD hS [6] [0, 1, 2, 3, 4, 5] rfl rfl rfl rfl (by decide) 0 12 rfl rfl rfl hl.1 rfl (Nat.le_of_ble_eq_true rfl) dL_law_2211 (fun rr200 uu201 H locs hw199 hP hD hS => ?_)
      obtain rfl : rr200 = 2 := hw199
      have hP : va_P G.1 vwCl [(aout, .inl (G.2.2.2.2, 1, .inr (.inl (vp_updL (fun _ => 0) 0 (-1))))), (x0, .inr (11, ofL 17 Fx0)), (x28, .inr (10, ofL 7 Fx28)), (x31, .inr (1, ofL 10 Fx31)), (x3, .inr (7, ofL 5 Fx3)), (x29, .inr (4, ofL 3 (updV Fx29 0 (.int 0)))), (m0, .inr (12, ofL 88 (updV (updV Fm0 0 (.int 0)) 0 (.int 2))))] H := hP
      have hD : va_D A [(aout, .inl (G.2.2.2.2, 1, .inr (.inl (vp_updL (fun _ => 0) 0 (-1))))), (x0, .inr (11, ofL 17 Fx0)), (x28, .inr (10, ofL 7 Fx28)), (x31, .inr (1, ofL 10 Fx31)), (x3, .inr (7, ofL 5 Fx3)), (x29, .inr (4, ofL 3 (updV Fx29 0 (.int 0)))), (m0, .inr (12, ofL 88 (updV (updV Fm0 0 (.int 0)) 0 (.int 2))))] := hD
      refine lv_iload hx hb dL_law_2214 (lv_at hl 1 rfl) ?_
      refine lv_icmp_eq (x := 2) (y := 0) (tgt := 2221) hx hb dL_law_2216 (by decide) (fun c_202 => ?_) (fun c_202 => ?_)
      · exact absurd c_202 (by decide)
      refine lv_iconst (v := 0) hx hb dL_law_2219 (by decide) ?_
      exfalso
      have e9_0 : (0 : Int32).toInt = 0 := by decide
      have e9_1 : (1 : Int32).toInt = 1 := by decide
      have e9_2 : (2 : Int32).toInt = 2 := by decide
      have e9_30 : (30 : Int32).toInt = 30 := by decide
      simp only [Int32.lt_iff_toInt_lt, Int32.le_iff_toInt_le] at c_14 c_15 c_16 c_17 c_180 c_181 c_182
      omega
    ·
      have hP : va_P G.1 vwCl [(aout, .inl (G.2.2.2.2, 1, .inr (.inl (vp_updL (fun _ => 0) 0 (-1))))), (x0, .inr (11, ofL 17 Fx0)), (x28, .inr (10, ofL 7 Fx28)), (x31, .inr (1, ofL 10 Fx31)), (x3, .inr (7, ofL 5 Fx3)), (x29, .inr (4, ofL 3 (updV Fx29 0 (.int 0)))), (m0, .inr (12, ofL 88 (updV (updV Fm0 0 (.int 0)) 0 (.int 2))))] H := hP
      have hD : va_D A [(aout, .inl (G.2.2.2.2, 1, .inr (.inl (vp_updL (fun _ => 0) 0 (-1))))), (x0, .inr (11, ofL 17 Fx0)), (x28, .inr (10, ofL 7 Fx28)), (x31, .inr (1, ofL 10 Fx31)), (x3, .inr (7, ofL 5 Fx3)), (x29, .inr (4, ofL 3 (updV Fx29 0 (.int 0)))), (m0, .inr (12, ofL 88 (updV (updV Fm0 0 (.int 0)) 0 (.int 2))))] := hD
      refine lv_istore (lv' := [(6, .int 0), (5, .int 0), (0, .ref b), (1, .ref x0), (2, .ref m0), (3, .ref aout), (4, .int 0)]) hx hb dL_law_2208 hl (by decide) rfl (fun ls hl => ?_)
      refine lv_aload_n hx hb dL_law_2210 rfl (lv_at hl 4 rfl) ?_
      refine k_callVi (wr := [(aout, .inl (G.2.2.2.2, 1, .inr (.inl (vp_updL (fun _ => 0) 0 (-1))))), (x0, .inr (11, ofL 17 Fx0)), (x28, .inr (10, ofL 7 Fx28)), (x31, .inr (1, ofL 10 Fx31)), (x3, .inr (7, ofL 5 Fx3)), (x29, .inr (4, ofL 3 (updV Fx29 0 (.int 0))))]) (rest := []) li_L_118 C (c_X12_thrown l G H.size m0 (updV (updV Fm0 0 (.int 0)) 0 (.int 2)) 2 rfl) (kR rfl) hP hD hS [6] [0, 1, 2, 3, 4, 5] rfl rfl rfl rfl (by decide) 0 12 rfl rfl rfl hl.1 rfl (Nat.le_of_ble_eq_true rfl) dL_law_2211 (fun rr204 uu205 H locs hw203 hP hD hS => ?_)
      obtain rfl : rr204 = 2 := hw203
      have hP : va_P G.1 vwCl [(aout, .inl (G.2.2.2.2, 1, .inr (.inl (vp_updL (fun _ => 0) 0 (-1))))), (x0, .inr (11, ofL 17 Fx0)), (x28, .inr (10, ofL 7 Fx28)), (x31, .inr (1, ofL 10 Fx31)), (x3, .inr (7, ofL 5 Fx3)), (x29, .inr (4, ofL 3 (updV Fx29 0 (.int 0)))), (m0, .inr (12, ofL 88 (updV (updV Fm0 0 (.int 0)) 0 (.int 2))))] H := hP
      have hD : va_D A [(aout, .inl (G.2.2.2.2, 1, .inr (.inl (vp_updL (fun _ => 0) 0 (-1))))), (x0, .inr (11, ofL 17 Fx0)), (x28, .inr (10, ofL 7 Fx28)), (x31, .inr (1, ofL 10 Fx31)), (x3, .inr (7, ofL 5 Fx3)), (x29, .inr (4, ofL 3 (updV Fx29 0 (.int 0)))), (m0, .inr (12, ofL 88 (updV (updV Fm0 0 (.int 0)) 0 (.int 2))))] := hD
      refine lv_iload hx hb dL_law_2214 (lv_at hl 1 rfl) ?_
      refine lv_icmp_eq (x := 2) (y := 0) (tgt := 2221) hx hb dL_law_2216 (by decide) (fun c_206 => ?_) (fun c_206 => ?_)
      · exact absurd c_206 (by decide)
      refine lv_iconst (v := 0) hx hb dL_law_2219 (by decide) ?_
      exfalso
      have e9_0 : (0 : Int32).toInt = 0 := by decide
      have e9_1 : (1 : Int32).toInt = 1 := by decide
      have e9_2 : (2 : Int32).toInt = 2 := by decide
      have e9_30 : (30 : Int32).toInt = 30 := by decide
      simp only [Int32.lt_iff_toInt_lt, Int32.le_iff_toInt_le] at c_14 c_15 c_16 c_17 c_183 c_184 c_185 c_186
      omega
    ·
      have hP : va_P G.1 vwCl [(aout, .inl (G.2.2.2.2, 1, .inr (.inl (vp_updL (fun _ => 0) 0 (-1))))), (x0, .inr (11, ofL 17 Fx0)), (x28, .inr (10, ofL 7 Fx28)), (x31, .inr (1, ofL 10 Fx31)), (x3, .inr (7, ofL 5 Fx3)), (x29, .inr (4, ofL 3 (updV Fx29 0 (.int 0)))), (m0, .inr (12, ofL 88 (updV Fm0 0 (.int 0))))] H := hP
      have hD : va_D A [(aout, .inl (G.2.2.2.2, 1, .inr (.inl (vp_updL (fun _ => 0) 0 (-1))))), (x0, .inr (11, ofL 17 Fx0)), (x28, .inr (10, ofL 7 Fx28)), (x31, .inr (1, ofL 10 Fx31)), (x3, .inr (7, ofL 5 Fx3)), (x29, .inr (4, ofL 3 (updV Fx29 0 (.int 0)))), (m0, .inr (12, ofL 88 (updV Fm0 0 (.int 0))))] := hD
      refine lv_istore (lv' := [(6, .int (-1)), (5, .int 0), (0, .ref b), (1, .ref x0), (2, .ref m0), (3, .ref aout), (4, .int 0)]) hx hb dL_law_2208 hl (by decide) rfl (fun ls hl => ?_)
      refine lv_aload_n hx hb dL_law_2210 rfl (lv_at hl 4 rfl) ?_
      refine k_callVi (wr := [(aout, .inl (G.2.2.2.2, 1, .inr (.inl (vp_updL (fun _ => 0) 0 (-1))))), (x0, .inr (11, ofL 17 Fx0)), (x28, .inr (10, ofL 7 Fx28)), (x31, .inr (1, ofL 10 Fx31)), (x3, .inr (7, ofL 5 Fx3)), (x29, .inr (4, ofL 3 (updV Fx29 0 (.int 0))))]) (rest := []) li_L_118 C (c_X12_thrown l G H.size m0 (updV Fm0 0 (.int 0)) 0 rfl) (kR rfl) hP hD hS [6] [0, 1, 2, 3, 4, 5] rfl rfl rfl rfl (by decide) 0 12 rfl rfl rfl hl.1 rfl (Nat.le_of_ble_eq_true rfl) dL_law_2211 (fun rr208 uu209 H locs hw207 hP hD hS => ?_)
      obtain rfl : rr208 = 0 := hw207
      have hP : va_P G.1 vwCl [(aout, .inl (G.2.2.2.2, 1, .inr (.inl (vp_updL (fun _ => 0) 0 (-1))))), (x0, .inr (11, ofL 17 Fx0)), (x28, .inr (10, ofL 7 Fx28)), (x31, .inr (1, ofL 10 Fx31)), (x3, .inr (7, ofL 5 Fx3)), (x29, .inr (4, ofL 3 (updV Fx29 0 (.int 0)))), (m0, .inr (12, ofL 88 (updV Fm0 0 (.int 0))))] H := hP
      have hD : va_D A [(aout, .inl (G.2.2.2.2, 1, .inr (.inl (vp_updL (fun _ => 0) 0 (-1))))), (x0, .inr (11, ofL 17 Fx0)), (x28, .inr (10, ofL 7 Fx28)), (x31, .inr (1, ofL 10 Fx31)), (x3, .inr (7, ofL 5 Fx3)), (x29, .inr (4, ofL 3 (updV Fx29 0 (.int 0)))), (m0, .inr (12, ofL 88 (updV Fm0 0 (.int 0))))] := hD
      refine lv_iload hx hb dL_law_2214 (lv_at hl 1 rfl) ?_
      refine lv_icmp_eq (x := 0) (y := 0) (tgt := 2221) hx hb dL_law_2216 (by decide) (fun c_210 => ?_) (fun c_210 => ?_)
      rotate_left
      · exact absurd (by decide) c_210
      refine lv_iload hx hb dL_law_2221 (lv_at hl 1 rfl) ?_
      refine lv_if_ne (x := 0) (tgt := 2238) hx hb dL_law_2223 (by decide) (fun c_211 => ?_) (fun c_211 => ?_)
      · exact absurd (by decide) c_211
      refine lv_aload_n hx hb dL_law_2226 rfl (lv_at hl 5 rfl) ?_
      refine lv_iconst (v := 0) hx hb dL_law_2227 (by decide) ?_
      refine k_lald C hP 0 rfl (k_in (by decide)) dL_law_2228 ?_
      refine k_eql (y := -1) rfl ?_
      refine lv_iload hx hb dL_law_2229 (lv_at hl 0 rfl) ?_
      refine lv_i2l (v := -1) hx hb dL_law_2231 (by decide) ?_
      refine W.lcmp hx hb dL_law_2232 ?_
      refine k_eqi (y := 0) (by decide) ?_
      refine lv_if_eq (x := 0) (tgt := 2238) hx hb dL_law_2233 (by decide) (fun c_212 => ?_) (fun c_212 => ?_)
      rotate_left
      · exact absurd (by decide) c_212
      refine lv_goto (tgt := 2265) hx hb dL_law_2238 (by decide) ?_
      exact law_end hst C0 hA C hS (lv_sub hl [2, 6] rfl) (Nat.le_of_ble_eq_true rfl) (Nat.le_of_ble_eq_true rfl)
set_option maxHeartbeats 4000000 in
set_option maxRecDepth 100000 in
theorem law_37 {p : Program} {e : Env} {s : State} {m : MethodId} {below : List Frame} {meth : Method} {c : Code} {l : Launch} (hst : l.stackTraces = false) {b : Nat} {xs : Nat → Int32} {G : kG} {A : Nat → Prop} (C0 : lw_At p s m meth c b 6 xs) (hA : A = fun q : Nat => s.heap.size ≤ q) (C : kC G p s m c cL_law 8 RL A) {v1 : Int32} (hv1 : xs 1 = v1) {v2 : Int32} (hv2 : xs 2 = v2) {v3 : Int32} (hv3 : xs 3 = v3) {v4 : Int32} (hv4 : xs 4 = v4) {v5 : Int32} (hv5 : xs 5 = v5) {x0 : Nat} {Fx0 : Nat → Value} {x8 : Nat} {x18 : Nat} {Fx8 : Nat → Value} {x9 : Nat} {x10 : Nat} {x11 : Nat} {x12 : Nat} {x13 : Nat} {x14 : Nat} {x15 : Nat} {x16 : Nat} {x17 : Nat} {Fx18 : Nat → Value} {x19 : Nat} {x20 : Nat} {x21 : Nat} {x22 : Nat} {x23 : Nat} {x24 : Nat} {x25 : Nat} {x26 : Nat} {x27 : Nat} {m0 : Nat} {Fm0 : Nat → Value} {m12 : Nat} {m36 : Nat} {m43 : Nat} {m48 : Nat} {m49 : Nat} {m50 : Nat} {aout : Nat} (e_x0_6 : Fx0 6 = .ref x8) (e_x0_7 : Fx0 7 = .ref x18) (e_x8_0 : Fx8 0 = .ref x9) (e_x8_1 : Fx8 1 = .ref x10) (e_x8_2 : Fx8 2 = .ref x11) (e_x8_3 : Fx8 3 = .ref x12) (e_x8_4 : Fx8 4 = .ref x13) (e_x8_5 : Fx8 5 = .ref x14) (e_x8_6 : Fx8 6 = .ref x15) (e_x8_7 : Fx8 7 = .ref x16) (e_x8_8 : Fx8 8 = .ref x17) (e_x8_9 : Fx8 9 = .int 0) (e_x8_10 : Fx8 10 = .int 0) (e_x8_11 : Fx8 11 = .int (-1)) (e_x18_0 : Fx18 0 = .ref x19) (e_x18_1 : Fx18 1 = .ref x20) (e_x18_2 : Fx18 2 = .ref x21) (e_x18_3 : Fx18 3 = .ref x22) (e_x18_4 : Fx18 4 = .ref x23) (e_x18_5 : Fx18 5 = .ref x24) (e_x18_6 : Fx18 6 = .ref x25) (e_x18_7 : Fx18 7 = .ref x26) (e_x18_8 : Fx18 8 = .ref x27) (e_m0_16 : Fm0 16 = .ref m12) (e_m0_52 : Fm0 52 = .int (-1)) (e_m0_62 : Fm0 62 = .int 0) (e_m0_63 : Fm0 63 = .ref m36) (e_m0_73 : Fm0 73 = .int 0) (e_m0_74 : Fm0 74 = .ref m43) (e_m0_85 : Fm0 85 = .ref m48) (e_m0_86 : Fm0 86 = .ref m49) (e_m0_87 : Fm0 87 = .ref m50) {H : Heap} {locs : List Loc} {ls : Array Slot} (hP : va_P G.1 vwCl [(x0, .inr (11, ofL 17 Fx0)), (x8, .inr (3, ofL 12 Fx8)), (x9, .inl (G.2.1, 12, .inl (fun _ => 0))), (x10, .inl (G.2.1, 12, .inl (fun _ => 0))), (x11, .inl (G.2.1, 12, .inl (fun _ => 0))), (x12, .inl (G.2.1, 12, .inl (fun _ => 0))), (x13, .inl (G.2.1, 40, .inl (fun _ => 0))), (x14, .inl (G.2.1, 40, .inl (fun _ => 0))), (x15, .inl (G.2.1, 40, .inl (fun _ => 0))), (x16, .inl (G.2.1, 8, .inl (fun _ => 0))), (x17, .inl (G.2.1, 8, .inl (fun _ => 0))), (x18, .inr (3, ofL 12 Fx18)), (x19, .inl (G.2.1, 12, .inl (fun _ => 0))), (x20, .inl (G.2.1, 12, .inl (fun _ => 0))), (x21, .inl (G.2.1, 12, .inl (fun _ => 0))), (x22, .inl (G.2.1, 12, .inl (fun _ => 0))), (x23, .inl (G.2.1, 40, .inl (fun _ => 0))), (x24, .inl (G.2.1, 40, .inl (fun _ => 0))), (x25, .inl (G.2.1, 40, .inl (fun _ => 0))), (x26, .inl (G.2.1, 8, .inl (fun _ => 0))), (x27, .inl (G.2.1, 8, .inl (fun _ => 0))), (m0, .inr (12, ofL 88 Fm0)), (m12, .inl (G.2.1, 48, .inl (fun _ => 0))), (m36, .inl (G.2.1, 80, .inl (fun _ => 0))), (m43, .inl (G.2.1, 16, .inl (fun _ => 0))), (m48, .inl (G.2.1, 48, .inl (fun _ => 0))), (m49, .inl (G.2.1, 80, .inl (fun _ => 0))), (m50, .inl (G.2.1, 16, .inl (fun _ => 0)))] H) (hD : va_D A [(x0, .inr (11, ofL 17 Fx0)), (x8, .inr (3, ofL 12 Fx8)), (x9, .inl (G.2.1, 12, .inl (fun _ => 0))), (x10, .inl (G.2.1, 12, .inl (fun _ => 0))), (x11, .inl (G.2.1, 12, .inl (fun _ => 0))), (x12, .inl (G.2.1, 12, .inl (fun _ => 0))), (x13, .inl (G.2.1, 40, .inl (fun _ => 0))), (x14, .inl (G.2.1, 40, .inl (fun _ => 0))), (x15, .inl (G.2.1, 40, .inl (fun _ => 0))), (x16, .inl (G.2.1, 8, .inl (fun _ => 0))), (x17, .inl (G.2.1, 8, .inl (fun _ => 0))), (x18, .inr (3, ofL 12 Fx18)), (x19, .inl (G.2.1, 12, .inl (fun _ => 0))), (x20, .inl (G.2.1, 12, .inl (fun _ => 0))), (x21, .inl (G.2.1, 12, .inl (fun _ => 0))), (x22, .inl (G.2.1, 12, .inl (fun _ => 0))), (x23, .inl (G.2.1, 40, .inl (fun _ => 0))), (x24, .inl (G.2.1, 40, .inl (fun _ => 0))), (x25, .inl (G.2.1, 40, .inl (fun _ => 0))), (x26, .inl (G.2.1, 8, .inl (fun _ => 0))), (x27, .inl (G.2.1, 8, .inl (fun _ => 0))), (m0, .inr (12, ofL 88 Fm0)), (m12, .inl (G.2.1, 48, .inl (fun _ => 0))), (m36, .inl (G.2.1, 80, .inl (fun _ => 0))), (m43, .inl (G.2.1, 16, .inl (fun _ => 0))), (m48, .inl (G.2.1, 48, .inl (fun _ => 0))), (m49, .inl (G.2.1, 80, .inl (fun _ => 0))), (m50, .inl (G.2.1, 16, .inl (fun _ => 0)))]) (hS : va_S A s.heap H locs) (hl : lv_has ls 8 [(0, .ref b), (1, .ref x0), (2, .ref m0), (3, .ref aout), (4, .int 0)]) :
    W p l e room_1 s m #[Value.ref b] below meth c H locs 1000 20000 (lw_Z below #[Value.ref b] s) (F0 m 2241 ls []) := by
  obtain ⟨hx, hb, hr, -, -, -, hX, hbl, hlocks, -⟩ := id C0
  have hbA : ¬ A b := by rw [hA]; exact Nat.not_le.mpr hbl
  refine lv_aload_n hx hb dL_law_2241 rfl (lv_at hl 1 rfl) ?_
  refine k_callVv (wr := [(m0, .inr (12, ofL 88 Fm0)), (m12, .inl (G.2.1, 48, .inl (fun _ => 0))), (m36, .inl (G.2.1, 80, .inl (fun _ => 0))), (m43, .inl (G.2.1, 16, .inl (fun _ => 0))), (m48, .inl (G.2.1, 48, .inl (fun _ => 0))), (m49, .inl (G.2.1, 80, .inl (fun _ => 0))), (m50, .inl (G.2.1, 16, .inl (fun _ => 0)))]) (rest := []) li_L_239 C (c_X11_image l G H.size x0 Fx0 x8 x18 Fx18 x19 x20 x21 x22 x23 x24 x25 x26 x27 Fx8 x9 x10 x11 x12 x13 x14 x15 x16 x17 0 0 (-1) (fun _ => 0) (fun _ => 0) (fun _ => 0) (fun _ => 0) (fun _ => 0) (fun _ => 0) (fun _ => 0) (fun _ => 0) (fun _ => 0) (fun _ => 0) (fun _ => 0) (fun _ => 0) (fun _ => 0) (fun _ => 0) (fun _ => 0) (fun _ => 0) (fun _ => 0) (fun _ => 0) e_x0_6 e_x0_7 e_x18_0 e_x18_1 e_x18_2 e_x18_3 e_x18_4 e_x18_5 e_x18_6 e_x18_7 e_x18_8 e_x8_0 e_x8_1 e_x8_2 e_x8_3 e_x8_4 e_x8_5 e_x8_6 e_x8_7 e_x8_8 e_x8_9 e_x8_10 e_x8_11) (kR rfl) hP hD hS [0, 11, 1, 12, 13, 14, 15, 16, 17, 18, 19, 20, 2, 3, 4, 5, 6, 7, 8, 9, 10] [21, 22, 23, 24, 25, 26, 27] rfl rfl rfl rfl (by decide) 0 11 rfl rfl rfl hl.1 rfl (Nat.le_of_ble_eq_true rfl) dL_law_2242 (fun uu3 H locs hw1 hP hD hS => ?_)
  have hP : va_P G.1 vwCl [(m0, .inr (12, ofL 88 Fm0)), (m12, .inl (G.2.1, 48, .inl (fun _ => 0))), (m36, .inl (G.2.1, 80, .inl (fun _ => 0))), (m43, .inl (G.2.1, 16, .inl (fun _ => 0))), (m48, .inl (G.2.1, 48, .inl (fun _ => 0))), (m49, .inl (G.2.1, 80, .inl (fun _ => 0))), (m50, .inl (G.2.1, 16, .inl (fun _ => 0))), (x0, .inr (11, ofL 17 (updV Fx0 15 (.int 1)))), (x18, .inr (3, ofL 12 (updV (updV (updV Fx18 9 (.int 0)) 10 (.int 0)) 11 (.int (-1))))), (x8, .inr (3, ofL 12 Fx8)), (x19, .inl (G.2.1, 12, .inl (va_cpy (fun _ => 0) (fun _ => 0) 0 0 12))), (x20, .inl (G.2.1, 12, .inl (va_cpy (fun _ => 0) (fun _ => 0) 0 0 12))), (x21, .inl (G.2.1, 12, .inl (va_cpy (fun _ => 0) (fun _ => 0) 0 0 12))), (x22, .inl (G.2.1, 12, .inl (va_cpy (fun _ => 0) (fun _ => 0) 0 0 12))), (x23, .inl (G.2.1, 40, .inl (va_cpy (fun _ => 0) (fun _ => 0) 0 0 40))), (x24, .inl (G.2.1, 40, .inl (va_cpy (fun _ => 0) (fun _ => 0) 0 0 40))), (x25, .inl (G.2.1, 40, .inl (va_cpy (fun _ => 0) (fun _ => 0) 0 0 40))), (x26, .inl (G.2.1, 8, .inl (va_cpy (fun _ => 0) (fun _ => 0) 0 0 8))), (x27, .inl (G.2.1, 8, .inl (va_cpy (fun _ => 0) (fun _ => 0) 0 0 8))), (x9, .inl (G.2.1, 12, .inl ((fun _ => 0)))), (x10, .inl (G.2.1, 12, .inl ((fun _ => 0)))), (x11, .inl (G.2.1, 12, .inl ((fun _ => 0)))), (x12, .inl (G.2.1, 12, .inl ((fun _ => 0)))), (x13, .inl (G.2.1, 40, .inl ((fun _ => 0)))), (x14, .inl (G.2.1, 40, .inl ((fun _ => 0)))), (x15, .inl (G.2.1, 40, .inl ((fun _ => 0)))), (x16, .inl (G.2.1, 8, .inl ((fun _ => 0)))), (x17, .inl (G.2.1, 8, .inl ((fun _ => 0))))] H := hP
  have hD : va_D A [(m0, .inr (12, ofL 88 Fm0)), (m12, .inl (G.2.1, 48, .inl (fun _ => 0))), (m36, .inl (G.2.1, 80, .inl (fun _ => 0))), (m43, .inl (G.2.1, 16, .inl (fun _ => 0))), (m48, .inl (G.2.1, 48, .inl (fun _ => 0))), (m49, .inl (G.2.1, 80, .inl (fun _ => 0))), (m50, .inl (G.2.1, 16, .inl (fun _ => 0))), (x0, .inr (11, ofL 17 (updV Fx0 15 (.int 1)))), (x18, .inr (3, ofL 12 (updV (updV (updV Fx18 9 (.int 0)) 10 (.int 0)) 11 (.int (-1))))), (x8, .inr (3, ofL 12 Fx8)), (x19, .inl (G.2.1, 12, .inl (va_cpy (fun _ => 0) (fun _ => 0) 0 0 12))), (x20, .inl (G.2.1, 12, .inl (va_cpy (fun _ => 0) (fun _ => 0) 0 0 12))), (x21, .inl (G.2.1, 12, .inl (va_cpy (fun _ => 0) (fun _ => 0) 0 0 12))), (x22, .inl (G.2.1, 12, .inl (va_cpy (fun _ => 0) (fun _ => 0) 0 0 12))), (x23, .inl (G.2.1, 40, .inl (va_cpy (fun _ => 0) (fun _ => 0) 0 0 40))), (x24, .inl (G.2.1, 40, .inl (va_cpy (fun _ => 0) (fun _ => 0) 0 0 40))), (x25, .inl (G.2.1, 40, .inl (va_cpy (fun _ => 0) (fun _ => 0) 0 0 40))), (x26, .inl (G.2.1, 8, .inl (va_cpy (fun _ => 0) (fun _ => 0) 0 0 8))), (x27, .inl (G.2.1, 8, .inl (va_cpy (fun _ => 0) (fun _ => 0) 0 0 8))), (x9, .inl (G.2.1, 12, .inl ((fun _ => 0)))), (x10, .inl (G.2.1, 12, .inl ((fun _ => 0)))), (x11, .inl (G.2.1, 12, .inl ((fun _ => 0)))), (x12, .inl (G.2.1, 12, .inl ((fun _ => 0)))), (x13, .inl (G.2.1, 40, .inl ((fun _ => 0)))), (x14, .inl (G.2.1, 40, .inl ((fun _ => 0)))), (x15, .inl (G.2.1, 40, .inl ((fun _ => 0)))), (x16, .inl (G.2.1, 8, .inl ((fun _ => 0)))), (x17, .inl (G.2.1, 8, .inl ((fun _ => 0))))] := hD
  refine lv_aload_n hx hb dL_law_2245 rfl (lv_at hl 2 rfl) ?_
  refine k_callVv (wr := [(x0, .inr (11, ofL 17 (updV Fx0 15 (.int 1)))), (x18, .inr (3, ofL 12 (updV (updV (updV Fx18 9 (.int 0)) 10 (.int 0)) 11 (.int (-1))))), (x8, .inr (3, ofL 12 Fx8)), (x19, .inl (G.2.1, 12, .inl (va_cpy (fun _ => 0) (fun _ => 0) 0 0 12))), (x20, .inl (G.2.1, 12, .inl (va_cpy (fun _ => 0) (fun _ => 0) 0 0 12))), (x21, .inl (G.2.1, 12, .inl (va_cpy (fun _ => 0) (fun _ => 0) 0 0 12))), (x22, .inl (G.2.1, 12, .inl (va_cpy (fun _ => 0) (fun _ => 0) 0 0 12))), (x23, .inl (G.2.1, 40, .inl (va_cpy (fun _ => 0) (fun _ => 0) 0 0 40))), (x24, .inl (G.2.1, 40, .inl (va_cpy (fun _ => 0) (fun _ => 0) 0 0 40))), (x25, .inl (G.2.1, 40, .inl (va_cpy (fun _ => 0) (fun _ => 0) 0 0 40))), (x26, .inl (G.2.1, 8, .inl (va_cpy (fun _ => 0) (fun _ => 0) 0 0 8))), (x27, .inl (G.2.1, 8, .inl (va_cpy (fun _ => 0) (fun _ => 0) 0 0 8))), (x9, .inl (G.2.1, 12, .inl ((fun _ => 0)))), (x10, .inl (G.2.1, 12, .inl ((fun _ => 0)))), (x11, .inl (G.2.1, 12, .inl ((fun _ => 0)))), (x12, .inl (G.2.1, 12, .inl ((fun _ => 0)))), (x13, .inl (G.2.1, 40, .inl ((fun _ => 0)))), (x14, .inl (G.2.1, 40, .inl ((fun _ => 0)))), (x15, .inl (G.2.1, 40, .inl ((fun _ => 0)))), (x16, .inl (G.2.1, 8, .inl ((fun _ => 0)))), (x17, .inl (G.2.1, 8, .inl ((fun _ => 0))))]) (rest := []) li_L_242 C (c_X12_image l G H.size m0 Fm0 m12 (-1) 0 m36 0 m43 m48 m49 m50 (fun _ => 0) (fun _ => 0) (fun _ => 0) (fun _ => 0) (fun _ => 0) (fun _ => 0) e_m0_16 e_m0_85 e_m0_63 e_m0_86 e_m0_74 e_m0_87 e_m0_52 e_m0_62 e_m0_73) (kR rfl) hP hD hS [0, 1, 4, 2, 5, 3, 6] [7, 8, 9, 10, 11, 12, 13, 14, 15, 16, 17, 18, 19, 20, 21, 22, 23, 24, 25, 26, 27] rfl rfl rfl rfl (by decide) 0 12 rfl rfl rfl hl.1 rfl (Nat.le_of_ble_eq_true rfl) dL_law_2246 (fun uu6 H locs hw4 hP hD hS => ?_)
  have hP : va_P G.1 vwCl [(x0, .inr (11, ofL 17 (updV Fx0 15 (.int 1)))), (x18, .inr (3, ofL 12 (updV (updV (updV Fx18 9 (.int 0)) 10 (.int 0)) 11 (.int (-1))))), (x8, .inr (3, ofL 12 Fx8)), (x19, .inl (G.2.1, 12, .inl (va_cpy (fun _ => 0) (fun _ => 0) 0 0 12))), (x20, .inl (G.2.1, 12, .inl (va_cpy (fun _ => 0) (fun _ => 0) 0 0 12))), (x21, .inl (G.2.1, 12, .inl (va_cpy (fun _ => 0) (fun _ => 0) 0 0 12))), (x22, .inl (G.2.1, 12, .inl (va_cpy (fun _ => 0) (fun _ => 0) 0 0 12))), (x23, .inl (G.2.1, 40, .inl (va_cpy (fun _ => 0) (fun _ => 0) 0 0 40))), (x24, .inl (G.2.1, 40, .inl (va_cpy (fun _ => 0) (fun _ => 0) 0 0 40))), (x25, .inl (G.2.1, 40, .inl (va_cpy (fun _ => 0) (fun _ => 0) 0 0 40))), (x26, .inl (G.2.1, 8, .inl (va_cpy (fun _ => 0) (fun _ => 0) 0 0 8))), (x27, .inl (G.2.1, 8, .inl (va_cpy (fun _ => 0) (fun _ => 0) 0 0 8))), (x9, .inl (G.2.1, 12, .inl ((fun _ => 0)))), (x10, .inl (G.2.1, 12, .inl ((fun _ => 0)))), (x11, .inl (G.2.1, 12, .inl ((fun _ => 0)))), (x12, .inl (G.2.1, 12, .inl ((fun _ => 0)))), (x13, .inl (G.2.1, 40, .inl ((fun _ => 0)))), (x14, .inl (G.2.1, 40, .inl ((fun _ => 0)))), (x15, .inl (G.2.1, 40, .inl ((fun _ => 0)))), (x16, .inl (G.2.1, 8, .inl ((fun _ => 0)))), (x17, .inl (G.2.1, 8, .inl ((fun _ => 0)))), (m0, .inr (12, ofL 88 (updV (updV (updV (updV (updV Fm0 0 (.int 0)) 81 (.int 1)) 82 (.int (-1))) 83 (.int 0)) 84 (.int 0))))] H := hP
  have hD : va_D A [(x0, .inr (11, ofL 17 (updV Fx0 15 (.int 1)))), (x18, .inr (3, ofL 12 (updV (updV (updV Fx18 9 (.int 0)) 10 (.int 0)) 11 (.int (-1))))), (x8, .inr (3, ofL 12 Fx8)), (x19, .inl (G.2.1, 12, .inl (va_cpy (fun _ => 0) (fun _ => 0) 0 0 12))), (x20, .inl (G.2.1, 12, .inl (va_cpy (fun _ => 0) (fun _ => 0) 0 0 12))), (x21, .inl (G.2.1, 12, .inl (va_cpy (fun _ => 0) (fun _ => 0) 0 0 12))), (x22, .inl (G.2.1, 12, .inl (va_cpy (fun _ => 0) (fun _ => 0) 0 0 12))), (x23, .inl (G.2.1, 40, .inl (va_cpy (fun _ => 0) (fun _ => 0) 0 0 40))), (x24, .inl (G.2.1, 40, .inl (va_cpy (fun _ => 0) (fun _ => 0) 0 0 40))), (x25, .inl (G.2.1, 40, .inl (va_cpy (fun _ => 0) (fun _ => 0) 0 0 40))), (x26, .inl (G.2.1, 8, .inl (va_cpy (fun _ => 0) (fun _ => 0) 0 0 8))), (x27, .inl (G.2.1, 8, .inl (va_cpy (fun _ => 0) (fun _ => 0) 0 0 8))), (x9, .inl (G.2.1, 12, .inl ((fun _ => 0)))), (x10, .inl (G.2.1, 12, .inl ((fun _ => 0)))), (x11, .inl (G.2.1, 12, .inl ((fun _ => 0)))), (x12, .inl (G.2.1, 12, .inl ((fun _ => 0)))), (x13, .inl (G.2.1, 40, .inl ((fun _ => 0)))), (x14, .inl (G.2.1, 40, .inl ((fun _ => 0)))), (x15, .inl (G.2.1, 40, .inl ((fun _ => 0)))), (x16, .inl (G.2.1, 8, .inl ((fun _ => 0)))), (x17, .inl (G.2.1, 8, .inl ((fun _ => 0)))), (m0, .inr (12, ofL 88 (updV (updV (updV (updV (updV Fm0 0 (.int 0)) 81 (.int 1)) 82 (.int (-1))) 83 (.int 0)) 84 (.int 0))))] := hD
  refine lv_goto (tgt := 2265) hx hb dL_law_2249 (by decide) ?_
  exact law_end hst C0 hA C hS (lv_sub hl [0, 4] rfl) (Nat.le_of_ble_eq_true rfl) (Nat.le_of_ble_eq_true rfl)
set_option maxHeartbeats 4000000 in
set_option maxRecDepth 100000 in
theorem law_38 {p : Program} {e : Env} {s : State} {m : MethodId} {below : List Frame} {meth : Method} {c : Code} {l : Launch} (hst : l.stackTraces = false) {b : Nat} {xs : Nat → Int32} {G : kG} {A : Nat → Prop} (C0 : lw_At p s m meth c b 6 xs) (hA : A = fun q : Nat => s.heap.size ≤ q) (C : kC G p s m c cL_law 8 RL A) {v1 : Int32} (hv1 : xs 1 = v1) {v2 : Int32} (hv2 : xs 2 = v2) {v3 : Int32} (hv3 : xs 3 = v3) {v4 : Int32} (hv4 : xs 4 = v4) {v5 : Int32} (hv5 : xs 5 = v5) {x0 : Nat} {Fx0 : Nat → Value} {m0 : Nat} {Fm0 : Nat → Value} {aout : Nat} (e_x0_15 : Fx0 15 = .int 0) (e_m0_81 : Fm0 81 = .int 0) {H : Heap} {locs : List Loc} {ls : Array Slot} (hP : va_P G.1 vwCl [(x0, .inr (11, ofL 17 Fx0)), (m0, .inr (12, ofL 88 Fm0))] H) (hD : va_D A [(x0, .inr (11, ofL 17 Fx0)), (m0, .inr (12, ofL 88 Fm0))]) (hS : va_S A s.heap H locs) (hl : lv_has ls 8 [(0, .ref b), (1, .ref x0), (2, .ref m0), (3, .ref aout), (4, .int 0)]) :
    W p l e room_1 s m #[Value.ref b] below meth c H locs 1000 20000 (lw_Z below #[Value.ref b] s) (F0 m 2252 ls []) := by
  obtain ⟨hx, hb, hr, -, -, -, hX, hbl, hlocks, -⟩ := id C0
  have hbA : ¬ A b := by rw [hA]; exact Nat.not_le.mpr hbl
  refine lv_aload_n hx hb dL_law_2252 rfl (lv_at hl 1 rfl) ?_
  refine k_callVi (wr := [(m0, .inr (12, ofL 88 Fm0))]) (rest := []) li_L_243 C (c_X11_restore l G H.size x0 Fx0 e_x0_15) (kR rfl) hP hD hS [0] [1] rfl rfl rfl rfl (by decide) 0 11 rfl rfl rfl hl.1 rfl (Nat.le_of_ble_eq_true rfl) dL_law_2253 (fun rr2 uu3 H locs hw1 hP hD hS => ?_)
  obtain rfl : rr2 = 0 := hw1
  have hP : va_P G.1 vwCl [(m0, .inr (12, ofL 88 Fm0)), (x0, .inr (11, ofL 17 Fx0))] H := hP
  have hD : va_D A [(m0, .inr (12, ofL 88 Fm0)), (x0, .inr (11, ofL 17 Fx0))] := hD
  refine lv_aload_n hx hb dL_law_2256 rfl (lv_at hl 2 rfl) ?_
  refine k_callVi (wr := [(x0, .inr (11, ofL 17 Fx0))]) (rest := [.int 0]) li_L_247 C (c_X12_restore l G H.size m0 Fm0 e_m0_81) (kR rfl) hP hD hS [0] [1] rfl rfl rfl rfl (by decide) 0 12 rfl rfl rfl hl.1 rfl (Nat.le_of_ble_eq_true rfl) dL_law_2257 (fun rr5 uu6 H locs hw4 hP hD hS => ?_)
  obtain rfl : rr5 = 0 := hw4
  have hP : va_P G.1 vwCl [(x0, .inr (11, ofL 17 Fx0)), (m0, .inr (12, ofL 88 (updV Fm0 0 (.int 0))))] H := hP
  have hD : va_D A [(x0, .inr (11, ofL 17 Fx0)), (m0, .inr (12, ofL 88 (updV Fm0 0 (.int 0))))] := hD
  refine lv_icmp_eq (x := 0) (y := 0) (tgt := 2265) hx hb dL_law_2260 (by decide) (fun c_7 => ?_) (fun c_7 => ?_)
  rotate_left
  · exact absurd (by decide) c_7
  exact law_end hst C0 hA C hS (lv_sub hl [0, 4] rfl) (Nat.le_of_ble_eq_true rfl) (Nat.le_of_ble_eq_true rfl)
