theorem dL_law_212 : decode cL_law 212 = .ok (.aload_n 1, 1) := by decide +kernel
theorem dL_law_213 : decode cL_law 213 = .ok (.aload_n 0, 1) := by decide +kernel
theorem dL_law_214 : decode cL_law 214 = .ok (.iload 4, 2) := by decide +kernel
theorem dL_law_216 : decode cL_law 216 = .ok (.iconst 1, 1) := by decide +kernel
theorem dL_law_217 : decode cL_law 217 = .ok (.iadd, 1) := by decide +kernel
theorem dL_law_218 : decode cL_law 218 = .ok (.iaload, 1) := by decide +kernel
theorem dL_law_219 : decode cL_law 219 = .ok (.aload_n 0, 1) := by decide +kernel
theorem dL_law_220 : decode cL_law 220 = .ok (.iload 4, 2) := by decide +kernel
theorem dL_law_222 : decode cL_law 222 = .ok (.iconst 2, 1) := by decide +kernel
theorem dL_law_223 : decode cL_law 223 = .ok (.iadd, 1) := by decide +kernel
theorem dL_law_224 : decode cL_law 224 = .ok (.iaload, 1) := by decide +kernel
theorem dL_law_225 : decode cL_law 225 = .ok (.aload_n 0, 1) := by decide +kernel
theorem dL_law_226 : decode cL_law 226 = .ok (.iload 4, 2) := by decide +kernel
theorem dL_law_228 : decode cL_law 228 = .ok (.iconst 3, 1) := by decide +kernel
theorem dL_law_229 : decode cL_law 229 = .ok (.iadd, 1) := by decide +kernel
theorem dL_law_230 : decode cL_law 230 = .ok (.iaload, 1) := by decide +kernel
theorem dL_law_231 : decode cL_law 231 = .ok (.aload_n 0, 1) := by decide +kernel
theorem dL_law_232 : decode cL_law 232 = .ok (.iload 4, 2) := by decide +kernel
theorem dL_law_234 : decode cL_law 234 = .ok (.iconst 4, 1) := by decide +kernel
theorem dL_law_235 : decode cL_law 235 = .ok (.iadd, 1) := by decide +kernel
theorem dL_law_236 : decode cL_law 236 = .ok (.iaload, 1) := by decide +kernel
theorem dL_law_237 : decode cL_law 237 = .ok (.aload_n 0, 1) := by decide +kernel
theorem dL_law_238 : decode cL_law 238 = .ok (.iload 4, 2) := by decide +kernel
theorem dL_law_240 : decode cL_law 240 = .ok (.iconst 5, 1) := by decide +kernel
theorem dL_law_241 : decode cL_law 241 = .ok (.iadd, 1) := by decide +kernel
theorem dL_law_242 : decode cL_law 242 = .ok (.iaload, 1) := by decide +kernel
theorem tw_537 : (Jvm.Cond.methodLink "MarshBellsLaw" (107 : Nat) ({ cls := "MarshBells", name := "feed", desc := "(IIIII)I" } : Jvm.MethodName)) ∈ lw_tbl := tk_3 (List.mem_of_getElem? (i := 57) rfl)
theorem tw_540 : (Jvm.Cond.code ({ cls := "MarshBells", name := "feed", desc := "(IIIII)I" } : Jvm.MethodName) prog_1_method_2_code (6 : Nat) (Option.some Jvm.ClassFile.FieldType.int)) ∈ lw_tbl := tk_3 (List.mem_of_getElem? (i := 60) rfl)
theorem tw_538 : (Jvm.Cond.instanceMethod ({ cls := "MarshBells", name := "feed", desc := "(IIIII)I" } : Jvm.MethodName)) ∈ lw_tbl := tk_3 (List.mem_of_getElem? (i := 58) rfl)
theorem tw_539 : (Jvm.Cond.selects "MarshBells" ({ cls := "MarshBells", name := "feed", desc := "(IIIII)I" } : Jvm.MethodName) ({ cls := "MarshBells", name := "feed", desc := "(IIIII)I" } : Jvm.MethodName)) ∈ lw_tbl := tk_3 (List.mem_of_getElem? (i := 59) rfl)
theorem li_L_107 : kLV RL 107 RX11 yX11_feed cX11_feed 6 (some .int) 5 := ⟨tw_537, tw_538, tw_539, tw_540, tw_1, by decide +kernel⟩
theorem dL_law_243 : decode cL_law 243 = .ok (.invokevirtual 107, 3) := by decide +kernel
theorem dL_law_246 : decode cL_law 246 = .ok (.aload_n 2, 1) := by decide +kernel
theorem dL_law_247 : decode cL_law 247 = .ok (.aload_n 0, 1) := by decide +kernel
theorem dL_law_248 : decode cL_law 248 = .ok (.iload 4, 2) := by decide +kernel
theorem dL_law_250 : decode cL_law 250 = .ok (.iconst 1, 1) := by decide +kernel
theorem dL_law_251 : decode cL_law 251 = .ok (.iadd, 1) := by decide +kernel
theorem dL_law_252 : decode cL_law 252 = .ok (.iaload, 1) := by decide +kernel
theorem dL_law_253 : decode cL_law 253 = .ok (.aload_n 0, 1) := by decide +kernel
theorem dL_law_254 : decode cL_law 254 = .ok (.iload 4, 2) := by decide +kernel
theorem dL_law_256 : decode cL_law 256 = .ok (.iconst 2, 1) := by decide +kernel
theorem dL_law_257 : decode cL_law 257 = .ok (.iadd, 1) := by decide +kernel
theorem dL_law_258 : decode cL_law 258 = .ok (.iaload, 1) := by decide +kernel
theorem dL_law_259 : decode cL_law 259 = .ok (.aload_n 0, 1) := by decide +kernel
theorem dL_law_260 : decode cL_law 260 = .ok (.iload 4, 2) := by decide +kernel
theorem dL_law_262 : decode cL_law 262 = .ok (.iconst 3, 1) := by decide +kernel
theorem dL_law_263 : decode cL_law 263 = .ok (.iadd, 1) := by decide +kernel
theorem dL_law_264 : decode cL_law 264 = .ok (.iaload, 1) := by decide +kernel
theorem dL_law_265 : decode cL_law 265 = .ok (.aload_n 0, 1) := by decide +kernel
theorem dL_law_266 : decode cL_law 266 = .ok (.iload 4, 2) := by decide +kernel
theorem dL_law_268 : decode cL_law 268 = .ok (.iconst 4, 1) := by decide +kernel
theorem dL_law_269 : decode cL_law 269 = .ok (.iadd, 1) := by decide +kernel
theorem dL_law_270 : decode cL_law 270 = .ok (.iaload, 1) := by decide +kernel
theorem dL_law_271 : decode cL_law 271 = .ok (.aload_n 0, 1) := by decide +kernel
theorem dL_law_272 : decode cL_law 272 = .ok (.iload 4, 2) := by decide +kernel
theorem dL_law_274 : decode cL_law 274 = .ok (.iconst 5, 1) := by decide +kernel
theorem dL_law_275 : decode cL_law 275 = .ok (.iadd, 1) := by decide +kernel
theorem dL_law_276 : decode cL_law 276 = .ok (.iaload, 1) := by decide +kernel
theorem tw_1692 : (Jvm.Cond.methodLink "MarshBellsLaw" (111 : Nat) ({ cls := "MarshBellsModel", name := "feed", desc := "(IIIII)I" } : Jvm.MethodName)) ∈ lw_tbl := tk_8 (List.mem_of_getElem? (i := 12) rfl)
theorem tw_1695 : (Jvm.Cond.code ({ cls := "MarshBellsModel", name := "feed", desc := "(IIIII)I" } : Jvm.MethodName) prog_14_method_7_code (6 : Nat) (Option.some Jvm.ClassFile.FieldType.int)) ∈ lw_tbl := tk_8 (List.mem_of_getElem? (i := 15) rfl)
theorem tw_1693 : (Jvm.Cond.instanceMethod ({ cls := "MarshBellsModel", name := "feed", desc := "(IIIII)I" } : Jvm.MethodName)) ∈ lw_tbl := tk_8 (List.mem_of_getElem? (i := 13) rfl)
theorem tw_1694 : (Jvm.Cond.selects "MarshBellsModel" ({ cls := "MarshBellsModel", name := "feed", desc := "(IIIII)I" } : Jvm.MethodName) ({ cls := "MarshBellsModel", name := "feed", desc := "(IIIII)I" } : Jvm.MethodName)) ∈ lw_tbl := tk_8 (List.mem_of_getElem? (i := 14) rfl)
theorem li_L_111 : kLV RL 111 RX12 yX12_feed cX12_feed 6 (some .int) 5 := ⟨tw_1692, tw_1693, tw_1694, tw_1695, tw_13, by decide +kernel⟩
theorem dL_law_277 : decode cL_law 277 = .ok (.invokevirtual 111, 3) := by decide +kernel
theorem dL_law_280 : decode cL_law 280 = .ok (.if_icmp .eq 1985, 3) := by decide +kernel
theorem dL_law_285 : decode cL_law 285 = .ok (.aload_n 1, 1) := by decide +kernel
theorem dL_law_286 : decode cL_law 286 = .ok (.aload_n 0, 1) := by decide +kernel
theorem dL_law_287 : decode cL_law 287 = .ok (.iload 4, 2) := by decide +kernel
theorem dL_law_289 : decode cL_law 289 = .ok (.iconst 1, 1) := by decide +kernel
theorem dL_law_290 : decode cL_law 290 = .ok (.iadd, 1) := by decide +kernel
theorem dL_law_291 : decode cL_law 291 = .ok (.iaload, 1) := by decide +kernel
theorem dL_law_292 : decode cL_law 292 = .ok (.aload_n 3, 1) := by decide +kernel
theorem tw_729 : (Jvm.Cond.methodLink "MarshBellsLaw" (112 : Nat) ({ cls := "MarshBellsLaw", name := "house", desc := "(LMarshBells;I[J)I" } : Jvm.MethodName)) ∈ lw_tbl := tk_4 (List.mem_of_getElem? (i := 9) rfl)
theorem tw_0 : (Jvm.Cond.initialized "MarshBellsLaw") ∈ lw_tbl := tk_1 (List.mem_of_getElem? (i := 0) rfl)
theorem tw_731 : (Jvm.Cond.codeWith ({ cls := "MarshBellsLaw", name := "house", desc := "(LMarshBells;I[J)I" } : Jvm.MethodName) method_3_code (4 : Nat) (Option.some Jvm.ClassFile.FieldType.int) [((0 : Nat), (9 : Nat), (12 : Nat), (13 : Nat))]) ∈ lw_tbl := tk_4 (List.mem_of_getElem? (i := 11) rfl)
theorem tw_730 : (Jvm.Cond.static ({ cls := "MarshBellsLaw", name := "house", desc := "(LMarshBells;I[J)I" } : Jvm.MethodName)) ∈ lw_tbl := tk_4 (List.mem_of_getElem? (i := 10) rfl)
theorem li_L_112 : kLH RL 112 yL_house cL_house 4 (some .int) [(0, 9, 12, 13)] 3 := ⟨tw_729, tw_730, tw_731, tw_0, by decide +kernel⟩
theorem dL_law_293 : decode cL_law 293 = .ok (.invokestatic 112, 3) := by decide +kernel
theorem dL_law_296 : decode cL_law 296 = .ok (.istore 5, 2) := by decide +kernel
theorem dL_law_298 : decode cL_law 298 = .ok (.aload_n 2, 1) := by decide +kernel
theorem dL_law_299 : decode cL_law 299 = .ok (.aload_n 0, 1) := by decide +kernel
theorem dL_law_300 : decode cL_law 300 = .ok (.iload 4, 2) := by decide +kernel
theorem dL_law_302 : decode cL_law 302 = .ok (.iconst 1, 1) := by decide +kernel
theorem dL_law_303 : decode cL_law 303 = .ok (.iadd, 1) := by decide +kernel
theorem dL_law_304 : decode cL_law 304 = .ok (.iaload, 1) := by decide +kernel
theorem tw_1700 : (Jvm.Cond.methodLink "MarshBellsLaw" (117 : Nat) ({ cls := "MarshBellsModel", name := "house", desc := "(I)I" } : Jvm.MethodName)) ∈ lw_tbl := tk_8 (List.mem_of_getElem? (i := 20) rfl)
theorem tw_1703 : (Jvm.Cond.code ({ cls := "MarshBellsModel", name := "house", desc := "(I)I" } : Jvm.MethodName) prog_14_method_36_code (2 : Nat) (Option.some Jvm.ClassFile.FieldType.int)) ∈ lw_tbl := tk_8 (List.mem_of_getElem? (i := 23) rfl)
theorem tw_1701 : (Jvm.Cond.instanceMethod ({ cls := "MarshBellsModel", name := "house", desc := "(I)I" } : Jvm.MethodName)) ∈ lw_tbl := tk_8 (List.mem_of_getElem? (i := 21) rfl)
theorem tw_1702 : (Jvm.Cond.selects "MarshBellsModel" ({ cls := "MarshBellsModel", name := "house", desc := "(I)I" } : Jvm.MethodName) ({ cls := "MarshBellsModel", name := "house", desc := "(I)I" } : Jvm.MethodName)) ∈ lw_tbl := tk_8 (List.mem_of_getElem? (i := 22) rfl)
theorem li_L_117 : kLV RL 117 RX12 yX12_house cX12_house 2 (some .int) 1 := ⟨tw_1700, tw_1701, tw_1702, tw_1703, tw_13, by decide +kernel⟩
theorem dL_law_305 : decode cL_law 305 = .ok (.invokevirtual 117, 3) := by decide +kernel
theorem dL_law_308 : decode cL_law 308 = .ok (.istore 6, 2) := by decide +kernel
theorem dL_law_310 : decode cL_law 310 = .ok (.aload_n 2, 1) := by decide +kernel
theorem tw_1688 : (Jvm.Cond.methodLink "MarshBellsLaw" (118 : Nat) ({ cls := "MarshBellsModel", name := "thrown", desc := "()I" } : Jvm.MethodName)) ∈ lw_tbl := tk_8 (List.mem_of_getElem? (i := 8) rfl)
theorem tw_1691 : (Jvm.Cond.code ({ cls := "MarshBellsModel", name := "thrown", desc := "()I" } : Jvm.MethodName) prog_14_method_2_code (1 : Nat) (Option.some Jvm.ClassFile.FieldType.int)) ∈ lw_tbl := tk_8 (List.mem_of_getElem? (i := 11) rfl)
theorem tw_1689 : (Jvm.Cond.instanceMethod ({ cls := "MarshBellsModel", name := "thrown", desc := "()I" } : Jvm.MethodName)) ∈ lw_tbl := tk_8 (List.mem_of_getElem? (i := 9) rfl)
theorem tw_1690 : (Jvm.Cond.selects "MarshBellsModel" ({ cls := "MarshBellsModel", name := "thrown", desc := "()I" } : Jvm.MethodName) ({ cls := "MarshBellsModel", name := "thrown", desc := "()I" } : Jvm.MethodName)) ∈ lw_tbl := tk_8 (List.mem_of_getElem? (i := 10) rfl)
theorem li_L_118 : kLV RL 118 RX12 yX12_thrown cX12_thrown 1 (some .int) 0 := ⟨tw_1688, tw_1689, tw_1690, tw_1691, tw_13, by decide +kernel⟩
theorem dL_law_311 : decode cL_law 311 = .ok (.invokevirtual 118, 3) := by decide +kernel
theorem dL_law_314 : decode cL_law 314 = .ok (.iload 5, 2) := by decide +kernel
theorem dL_law_316 : decode cL_law 316 = .ok (.if_icmp .eq 5, 3) := by decide +kernel
theorem dL_law_321 : decode cL_law 321 = .ok (.iload 5, 2) := by decide +kernel
theorem dL_law_323 : decode cL_law 323 = .ok (.ifCond .ne 15, 3) := by decide +kernel
theorem dL_law_338 : decode cL_law 338 = .ok (.goto 1927, 3) := by decide +kernel
theorem dL_law_326 : decode cL_law 326 = .ok (.aload_n 3, 1) := by decide +kernel
theorem dL_law_327 : decode cL_law 327 = .ok (.iconst 0, 1) := by decide +kernel
theorem dL_law_328 : decode cL_law 328 = .ok (.laload, 1) := by decide +kernel
theorem dL_law_329 : decode cL_law 329 = .ok (.iload 6, 2) := by decide +kernel
theorem dL_law_331 : decode cL_law 331 = .ok (.i2l, 1) := by decide +kernel
theorem dL_law_332 : decode cL_law 332 = .ok (.lcmp, 1) := by decide +kernel
theorem dL_law_333 : decode cL_law 333 = .ok (.ifCond .eq 5, 3) := by decide +kernel
theorem dL_law_341 : decode cL_law 341 = .ok (.aload_n 1, 1) := by decide +kernel
theorem tw_545 : (Jvm.Cond.methodLink "MarshBellsLaw" (122 : Nat) ({ cls := "MarshBells", name := "fault", desc := "()I" } : Jvm.MethodName)) ∈ lw_tbl := tk_3 (List.mem_of_getElem? (i := 65) rfl)
theorem tw_548 : (Jvm.Cond.code ({ cls := "MarshBells", name := "fault", desc := "()I" } : Jvm.MethodName) prog_1_method_4_code (1 : Nat) (Option.some Jvm.ClassFile.FieldType.int)) ∈ lw_tbl := tk_3 (List.mem_of_getElem? (i := 68) rfl)
theorem tw_546 : (Jvm.Cond.instanceMethod ({ cls := "MarshBells", name := "fault", desc := "()I" } : Jvm.MethodName)) ∈ lw_tbl := tk_3 (List.mem_of_getElem? (i := 66) rfl)
theorem tw_547 : (Jvm.Cond.selects "MarshBells" ({ cls := "MarshBells", name := "fault", desc := "()I" } : Jvm.MethodName) ({ cls := "MarshBells", name := "fault", desc := "()I" } : Jvm.MethodName)) ∈ lw_tbl := tk_3 (List.mem_of_getElem? (i := 67) rfl)
theorem li_L_122 : kLV RL 122 RX11 yX11_fault cX11_fault 1 (some .int) 0 := ⟨tw_545, tw_546, tw_547, tw_548, tw_1, by decide +kernel⟩
theorem dL_law_342 : decode cL_law 342 = .ok (.invokevirtual 122, 3) := by decide +kernel
theorem dL_law_345 : decode cL_law 345 = .ok (.aload_n 2, 1) := by decide +kernel
theorem tw_1815 : (Jvm.Cond.methodLink "MarshBellsLaw" (125 : Nat) ({ cls := "MarshBellsModel", name := "fault", desc := "()I" } : Jvm.MethodName)) ∈ lw_tbl := tk_8 (List.mem_of_getElem? (i := 135) rfl)
theorem tw_1818 : (Jvm.Cond.code ({ cls := "MarshBellsModel", name := "fault", desc := "()I" } : Jvm.MethodName) prog_14_method_37_code (1 : Nat) (Option.some Jvm.ClassFile.FieldType.int)) ∈ lw_tbl := tk_8 (List.mem_of_getElem? (i := 138) rfl)
theorem tw_1816 : (Jvm.Cond.instanceMethod ({ cls := "MarshBellsModel", name := "fault", desc := "()I" } : Jvm.MethodName)) ∈ lw_tbl := tk_8 (List.mem_of_getElem? (i := 136) rfl)
theorem tw_1817 : (Jvm.Cond.selects "MarshBellsModel" ({ cls := "MarshBellsModel", name := "fault", desc := "()I" } : Jvm.MethodName) ({ cls := "MarshBellsModel", name := "fault", desc := "()I" } : Jvm.MethodName)) ∈ lw_tbl := tk_8 (List.mem_of_getElem? (i := 137) rfl)
theorem li_L_125 : kLV RL 125 RX12 yX12_fault cX12_fault 1 (some .int) 0 := ⟨tw_1815, tw_1816, tw_1817, tw_1818, tw_13, by decide +kernel⟩
theorem dL_law_346 : decode cL_law 346 = .ok (.invokevirtual 125, 3) := by decide +kernel
theorem dL_law_349 : decode cL_law 349 = .ok (.if_icmp .eq 1916, 3) := by decide +kernel
theorem dL_law_354 : decode cL_law 354 = .ok (.aload_n 1, 1) := by decide +kernel
theorem dL_law_355 : decode cL_law 355 = .ok (.aload_n 0, 1) := by decide +kernel
theorem dL_law_356 : decode cL_law 356 = .ok (.iload 4, 2) := by decide +kernel
theorem dL_law_358 : decode cL_law 358 = .ok (.iconst 1, 1) := by decide +kernel
theorem dL_law_359 : decode cL_law 359 = .ok (.iadd, 1) := by decide +kernel
theorem dL_law_360 : decode cL_law 360 = .ok (.iaload, 1) := by decide +kernel
theorem dL_law_361 : decode cL_law 361 = .ok (.aload_n 3, 1) := by decide +kernel
theorem tw_989 : (Jvm.Cond.methodLink "MarshBellsLaw" (126 : Nat) ({ cls := "MarshBellsLaw", name := "count", desc := "(LMarshBells;I[J)I" } : Jvm.MethodName)) ∈ lw_tbl := tk_5 (List.mem_of_getElem? (i := 29) rfl)
theorem tw_991 : (Jvm.Cond.codeWith ({ cls := "MarshBellsLaw", name := "count", desc := "(LMarshBells;I[J)I" } : Jvm.MethodName) method_4_code (4 : Nat) (Option.some Jvm.ClassFile.FieldType.int) [((0 : Nat), (9 : Nat), (12 : Nat), (18 : Nat))]) ∈ lw_tbl := tk_5 (List.mem_of_getElem? (i := 31) rfl)
theorem tw_990 : (Jvm.Cond.static ({ cls := "MarshBellsLaw", name := "count", desc := "(LMarshBells;I[J)I" } : Jvm.MethodName)) ∈ lw_tbl := tk_5 (List.mem_of_getElem? (i := 30) rfl)
theorem li_L_126 : kLH RL 126 yL_count cL_count 4 (some .int) [(0, 9, 12, 18)] 3 := ⟨tw_989, tw_990, tw_991, tw_0, by decide +kernel⟩
theorem dL_law_362 : decode cL_law 362 = .ok (.invokestatic 126, 3) := by decide +kernel
theorem dL_law_365 : decode cL_law 365 = .ok (.istore 5, 2) := by decide +kernel
theorem dL_law_367 : decode cL_law 367 = .ok (.aload_n 2, 1) := by decide +kernel
theorem dL_law_368 : decode cL_law 368 = .ok (.aload_n 0, 1) := by decide +kernel
theorem dL_law_369 : decode cL_law 369 = .ok (.iload 4, 2) := by decide +kernel
theorem dL_law_371 : decode cL_law 371 = .ok (.iconst 1, 1) := by decide +kernel
theorem dL_law_372 : decode cL_law 372 = .ok (.iadd, 1) := by decide +kernel
theorem dL_law_373 : decode cL_law 373 = .ok (.iaload, 1) := by decide +kernel
theorem tw_1819 : (Jvm.Cond.methodLink "MarshBellsLaw" (128 : Nat) ({ cls := "MarshBellsModel", name := "count", desc := "(I)I" } : Jvm.MethodName)) ∈ lw_tbl := tk_8 (List.mem_of_getElem? (i := 139) rfl)
theorem tw_1822 : (Jvm.Cond.code ({ cls := "MarshBellsModel", name := "count", desc := "(I)I" } : Jvm.MethodName) prog_14_method_50_code (2 : Nat) (Option.some Jvm.ClassFile.FieldType.int)) ∈ lw_tbl := tk_8 (List.mem_of_getElem? (i := 142) rfl)
theorem tw_1820 : (Jvm.Cond.instanceMethod ({ cls := "MarshBellsModel", name := "count", desc := "(I)I" } : Jvm.MethodName)) ∈ lw_tbl := tk_8 (List.mem_of_getElem? (i := 140) rfl)
theorem tw_1821 : (Jvm.Cond.selects "MarshBellsModel" ({ cls := "MarshBellsModel", name := "count", desc := "(I)I" } : Jvm.MethodName) ({ cls := "MarshBellsModel", name := "count", desc := "(I)I" } : Jvm.MethodName)) ∈ lw_tbl := tk_8 (List.mem_of_getElem? (i := 141) rfl)
theorem li_L_128 : kLV RL 128 RX12 yX12_count cX12_count 2 (some .int) 1 := ⟨tw_1819, tw_1820, tw_1821, tw_1822, tw_13, by decide +kernel⟩
theorem dL_law_374 : decode cL_law 374 = .ok (.invokevirtual 128, 3) := by decide +kernel
theorem dL_law_377 : decode cL_law 377 = .ok (.istore 6, 2) := by decide +kernel
theorem dL_law_379 : decode cL_law 379 = .ok (.aload_n 2, 1) := by decide +kernel
theorem dL_law_380 : decode cL_law 380 = .ok (.invokevirtual 118, 3) := by decide +kernel
theorem dL_law_383 : decode cL_law 383 = .ok (.iload 5, 2) := by decide +kernel
theorem dL_law_385 : decode cL_law 385 = .ok (.if_icmp .eq 5, 3) := by decide +kernel
theorem dL_law_390 : decode cL_law 390 = .ok (.iload 5, 2) := by decide +kernel
theorem dL_law_392 : decode cL_law 392 = .ok (.ifCond .ne 15, 3) := by decide +kernel
theorem dL_law_407 : decode cL_law 407 = .ok (.goto 1858, 3) := by decide +kernel
theorem dL_law_395 : decode cL_law 395 = .ok (.aload_n 3, 1) := by decide +kernel
theorem dL_law_396 : decode cL_law 396 = .ok (.iconst 0, 1) := by decide +kernel
theorem dL_law_397 : decode cL_law 397 = .ok (.laload, 1) := by decide +kernel
theorem dL_law_398 : decode cL_law 398 = .ok (.iload 6, 2) := by decide +kernel
theorem dL_law_400 : decode cL_law 400 = .ok (.i2l, 1) := by decide +kernel
theorem dL_law_401 : decode cL_law 401 = .ok (.lcmp, 1) := by decide +kernel
theorem dL_law_402 : decode cL_law 402 = .ok (.ifCond .eq 5, 3) := by decide +kernel
theorem dL_law_410 : decode cL_law 410 = .ok (.aload_n 1, 1) := by decide +kernel
theorem dL_law_411 : decode cL_law 411 = .ok (.aload_n 0, 1) := by decide +kernel
theorem dL_law_412 : decode cL_law 412 = .ok (.iload 4, 2) := by decide +kernel
theorem dL_law_414 : decode cL_law 414 = .ok (.iconst 1, 1) := by decide +kernel
theorem dL_law_415 : decode cL_law 415 = .ok (.iadd, 1) := by decide +kernel
theorem dL_law_416 : decode cL_law 416 = .ok (.iaload, 1) := by decide +kernel
theorem dL_law_417 : decode cL_law 417 = .ok (.aload_n 0, 1) := by decide +kernel
theorem dL_law_418 : decode cL_law 418 = .ok (.iload 4, 2) := by decide +kernel
theorem dL_law_420 : decode cL_law 420 = .ok (.iconst 2, 1) := by decide +kernel
theorem dL_law_421 : decode cL_law 421 = .ok (.iadd, 1) := by decide +kernel
theorem dL_law_422 : decode cL_law 422 = .ok (.iaload, 1) := by decide +kernel
theorem dL_law_423 : decode cL_law 423 = .ok (.aload_n 3, 1) := by decide +kernel
theorem tw_1032 : (Jvm.Cond.methodLink "MarshBellsLaw" (129 : Nat) ({ cls := "MarshBellsLaw", name := "lesson", desc := "(LMarshBells;II[J)I" } : Jvm.MethodName)) ∈ lw_tbl := tk_5 (List.mem_of_getElem? (i := 72) rfl)
theorem tw_1034 : (Jvm.Cond.codeWith ({ cls := "MarshBellsLaw", name := "lesson", desc := "(LMarshBells;II[J)I" } : Jvm.MethodName) method_5_code (5 : Nat) (Option.some Jvm.ClassFile.FieldType.int) [((0 : Nat), (10 : Nat), (13 : Nat), (18 : Nat))]) ∈ lw_tbl := tk_5 (List.mem_of_getElem? (i := 74) rfl)
theorem tw_1033 : (Jvm.Cond.static ({ cls := "MarshBellsLaw", name := "lesson", desc := "(LMarshBells;II[J)I" } : Jvm.MethodName)) ∈ lw_tbl := tk_5 (List.mem_of_getElem? (i := 73) rfl)
theorem li_L_129 : kLH RL 129 yL_lesson cL_lesson 5 (some .int) [(0, 10, 13, 18)] 4 := ⟨tw_1032, tw_1033, tw_1034, tw_0, by decide +kernel⟩
theorem dL_law_424 : decode cL_law 424 = .ok (.invokestatic 129, 3) := by decide +kernel
theorem dL_law_427 : decode cL_law 427 = .ok (.istore 5, 2) := by decide +kernel
theorem dL_law_429 : decode cL_law 429 = .ok (.aload_n 2, 1) := by decide +kernel
theorem dL_law_430 : decode cL_law 430 = .ok (.aload_n 0, 1) := by decide +kernel
theorem dL_law_431 : decode cL_law 431 = .ok (.iload 4, 2) := by decide +kernel
theorem dL_law_433 : decode cL_law 433 = .ok (.iconst 1, 1) := by decide +kernel
theorem dL_law_434 : decode cL_law 434 = .ok (.iadd, 1) := by decide +kernel
theorem dL_law_435 : decode cL_law 435 = .ok (.iaload, 1) := by decide +kernel
theorem dL_law_436 : decode cL_law 436 = .ok (.aload_n 0, 1) := by decide +kernel
theorem dL_law_437 : decode cL_law 437 = .ok (.iload 4, 2) := by decide +kernel
theorem dL_law_439 : decode cL_law 439 = .ok (.iconst 2, 1) := by decide +kernel
theorem dL_law_440 : decode cL_law 440 = .ok (.iadd, 1) := by decide +kernel
theorem dL_law_441 : decode cL_law 441 = .ok (.iaload, 1) := by decide +kernel
theorem tw_1871 : (Jvm.Cond.methodLink "MarshBellsLaw" (132 : Nat) ({ cls := "MarshBellsModel", name := "lesson", desc := "(II)I" } : Jvm.MethodName)) ∈ lw_tbl := tk_8 (List.mem_of_getElem? (i := 191) rfl)
theorem tw_1874 : (Jvm.Cond.code ({ cls := "MarshBellsModel", name := "lesson", desc := "(II)I" } : Jvm.MethodName) prog_14_method_54_code (3 : Nat) (Option.some Jvm.ClassFile.FieldType.int)) ∈ lw_tbl := tk_8 (List.mem_of_getElem? (i := 194) rfl)
theorem tw_1872 : (Jvm.Cond.instanceMethod ({ cls := "MarshBellsModel", name := "lesson", desc := "(II)I" } : Jvm.MethodName)) ∈ lw_tbl := tk_8 (List.mem_of_getElem? (i := 192) rfl)
theorem tw_1873 : (Jvm.Cond.selects "MarshBellsModel" ({ cls := "MarshBellsModel", name := "lesson", desc := "(II)I" } : Jvm.MethodName) ({ cls := "MarshBellsModel", name := "lesson", desc := "(II)I" } : Jvm.MethodName)) ∈ lw_tbl := tk_8 (List.mem_of_getElem? (i := 193) rfl)
theorem li_L_132 : kLV RL 132 RX12 yX12_lesson cX12_lesson 3 (some .int) 2 := ⟨tw_1871, tw_1872, tw_1873, tw_1874, tw_13, by decide +kernel⟩
theorem dL_law_442 : decode cL_law 442 = .ok (.invokevirtual 132, 3) := by decide +kernel
theorem dL_law_445 : decode cL_law 445 = .ok (.istore 6, 2) := by decide +kernel
theorem dL_law_447 : decode cL_law 447 = .ok (.aload_n 2, 1) := by decide +kernel
theorem dL_law_448 : decode cL_law 448 = .ok (.invokevirtual 118, 3) := by decide +kernel
theorem dL_law_451 : decode cL_law 451 = .ok (.iload 5, 2) := by decide +kernel
theorem dL_law_453 : decode cL_law 453 = .ok (.if_icmp .eq 5, 3) := by decide +kernel
theorem dL_law_458 : decode cL_law 458 = .ok (.iload 5, 2) := by decide +kernel
theorem dL_law_460 : decode cL_law 460 = .ok (.ifCond .ne 15, 3) := by decide +kernel
theorem dL_law_475 : decode cL_law 475 = .ok (.goto 1790, 3) := by decide +kernel
theorem dL_law_478 : decode cL_law 478 = .ok (.aload_n 1, 1) := by decide +kernel
theorem dL_law_479 : decode cL_law 479 = .ok (.aload_n 0, 1) := by decide +kernel
theorem dL_law_480 : decode cL_law 480 = .ok (.iload 4, 2) := by decide +kernel
theorem dL_law_482 : decode cL_law 482 = .ok (.iconst 1, 1) := by decide +kernel
theorem dL_law_483 : decode cL_law 483 = .ok (.iadd, 1) := by decide +kernel
theorem dL_law_484 : decode cL_law 484 = .ok (.iaload, 1) := by decide +kernel
theorem dL_law_485 : decode cL_law 485 = .ok (.aload_n 0, 1) := by decide +kernel
theorem dL_law_486 : decode cL_law 486 = .ok (.iload 4, 2) := by decide +kernel
theorem dL_law_488 : decode cL_law 488 = .ok (.iconst 2, 1) := by decide +kernel
theorem dL_law_489 : decode cL_law 489 = .ok (.iadd, 1) := by decide +kernel
theorem dL_law_490 : decode cL_law 490 = .ok (.iaload, 1) := by decide +kernel
theorem dL_law_491 : decode cL_law 491 = .ok (.aload_n 3, 1) := by decide +kernel
theorem tw_1043 : (Jvm.Cond.methodLink "MarshBellsLaw" (133 : Nat) ({ cls := "MarshBellsLaw", name := "day", desc := "(LMarshBells;II[J)I" } : Jvm.MethodName)) ∈ lw_tbl := tk_5 (List.mem_of_getElem? (i := 83) rfl)
theorem tw_1045 : (Jvm.Cond.codeWith ({ cls := "MarshBellsLaw", name := "day", desc := "(LMarshBells;II[J)I" } : Jvm.MethodName) method_6_code (5 : Nat) (Option.some Jvm.ClassFile.FieldType.int) [((0 : Nat), (10 : Nat), (13 : Nat), (18 : Nat))]) ∈ lw_tbl := tk_5 (List.mem_of_getElem? (i := 85) rfl)
theorem tw_1044 : (Jvm.Cond.static ({ cls := "MarshBellsLaw", name := "day", desc := "(LMarshBells;II[J)I" } : Jvm.MethodName)) ∈ lw_tbl := tk_5 (List.mem_of_getElem? (i := 84) rfl)
theorem li_L_133 : kLH RL 133 yL_day cL_day 5 (some .int) [(0, 10, 13, 18)] 4 := ⟨tw_1043, tw_1044, tw_1045, tw_0, by decide +kernel⟩
theorem dL_law_492 : decode cL_law 492 = .ok (.invokestatic 133, 3) := by decide +kernel
theorem dL_law_495 : decode cL_law 495 = .ok (.istore 5, 2) := by decide +kernel
theorem dL_law_497 : decode cL_law 497 = .ok (.aload_n 2, 1) := by decide +kernel
theorem dL_law_498 : decode cL_law 498 = .ok (.aload_n 0, 1) := by decide +kernel
theorem dL_law_499 : decode cL_law 499 = .ok (.iload 4, 2) := by decide +kernel
theorem dL_law_501 : decode cL_law 501 = .ok (.iconst 1, 1) := by decide +kernel
theorem dL_law_502 : decode cL_law 502 = .ok (.iadd, 1) := by decide +kernel
theorem dL_law_503 : decode cL_law 503 = .ok (.iaload, 1) := by decide +kernel
theorem dL_law_504 : decode cL_law 504 = .ok (.aload_n 0, 1) := by decide +kernel
theorem dL_law_505 : decode cL_law 505 = .ok (.iload 4, 2) := by decide +kernel
theorem dL_law_507 : decode cL_law 507 = .ok (.iconst 2, 1) := by decide +kernel
theorem dL_law_508 : decode cL_law 508 = .ok (.iadd, 1) := by decide +kernel
theorem dL_law_509 : decode cL_law 509 = .ok (.iaload, 1) := by decide +kernel
theorem tw_1887 : (Jvm.Cond.methodLink "MarshBellsLaw" (135 : Nat) ({ cls := "MarshBellsModel", name := "day", desc := "(II)I" } : Jvm.MethodName)) ∈ lw_tbl := tk_8 (List.mem_of_getElem? (i := 207) rfl)
theorem tw_1890 : (Jvm.Cond.code ({ cls := "MarshBellsModel", name := "day", desc := "(II)I" } : Jvm.MethodName) prog_14_method_55_code (3 : Nat) (Option.some Jvm.ClassFile.FieldType.int)) ∈ lw_tbl := tk_8 (List.mem_of_getElem? (i := 210) rfl)
theorem tw_1888 : (Jvm.Cond.instanceMethod ({ cls := "MarshBellsModel", name := "day", desc := "(II)I" } : Jvm.MethodName)) ∈ lw_tbl := tk_8 (List.mem_of_getElem? (i := 208) rfl)
theorem tw_1889 : (Jvm.Cond.selects "MarshBellsModel" ({ cls := "MarshBellsModel", name := "day", desc := "(II)I" } : Jvm.MethodName) ({ cls := "MarshBellsModel", name := "day", desc := "(II)I" } : Jvm.MethodName)) ∈ lw_tbl := tk_8 (List.mem_of_getElem? (i := 209) rfl)
theorem li_L_135 : kLV RL 135 RX12 yX12_day cX12_day 3 (some .int) 2 := ⟨tw_1887, tw_1888, tw_1889, tw_1890, tw_13, by decide +kernel⟩
theorem dL_law_510 : decode cL_law 510 = .ok (.invokevirtual 135, 3) := by decide +kernel
theorem dL_law_513 : decode cL_law 513 = .ok (.istore 6, 2) := by decide +kernel
theorem dL_law_515 : decode cL_law 515 = .ok (.aload_n 2, 1) := by decide +kernel
theorem dL_law_516 : decode cL_law 516 = .ok (.invokevirtual 118, 3) := by decide +kernel
theorem dL_law_519 : decode cL_law 519 = .ok (.iload 5, 2) := by decide +kernel
theorem dL_law_521 : decode cL_law 521 = .ok (.if_icmp .eq 5, 3) := by decide +kernel
theorem dL_law_526 : decode cL_law 526 = .ok (.iload 5, 2) := by decide +kernel
theorem dL_law_528 : decode cL_law 528 = .ok (.ifCond .ne 15, 3) := by decide +kernel
theorem dL_law_543 : decode cL_law 543 = .ok (.goto 1722, 3) := by decide +kernel
theorem dL_law_546 : decode cL_law 546 = .ok (.aload_n 1, 1) := by decide +kernel
theorem dL_law_547 : decode cL_law 547 = .ok (.aload_n 0, 1) := by decide +kernel
theorem dL_law_548 : decode cL_law 548 = .ok (.iload 4, 2) := by decide +kernel
theorem dL_law_550 : decode cL_law 550 = .ok (.iconst 1, 1) := by decide +kernel
theorem dL_law_551 : decode cL_law 551 = .ok (.iadd, 1) := by decide +kernel
theorem dL_law_552 : decode cL_law 552 = .ok (.iaload, 1) := by decide +kernel
theorem dL_law_553 : decode cL_law 553 = .ok (.aload_n 0, 1) := by decide +kernel
theorem dL_law_554 : decode cL_law 554 = .ok (.iload 4, 2) := by decide +kernel
theorem dL_law_556 : decode cL_law 556 = .ok (.iconst 2, 1) := by decide +kernel
theorem dL_law_557 : decode cL_law 557 = .ok (.iadd, 1) := by decide +kernel
theorem dL_law_558 : decode cL_law 558 = .ok (.iaload, 1) := by decide +kernel
theorem dL_law_559 : decode cL_law 559 = .ok (.aload_n 3, 1) := by decide +kernel
theorem tw_1051 : (Jvm.Cond.methodLink "MarshBellsLaw" (136 : Nat) ({ cls := "MarshBellsLaw", name := "chain", desc := "(LMarshBells;II[J)I" } : Jvm.MethodName)) ∈ lw_tbl := tk_5 (List.mem_of_getElem? (i := 91) rfl)
theorem tw_1053 : (Jvm.Cond.codeWith ({ cls := "MarshBellsLaw", name := "chain", desc := "(LMarshBells;II[J)I" } : Jvm.MethodName) method_7_code (5 : Nat) (Option.some Jvm.ClassFile.FieldType.int) [((0 : Nat), (10 : Nat), (13 : Nat), (18 : Nat))]) ∈ lw_tbl := tk_5 (List.mem_of_getElem? (i := 93) rfl)
theorem tw_1052 : (Jvm.Cond.static ({ cls := "MarshBellsLaw", name := "chain", desc := "(LMarshBells;II[J)I" } : Jvm.MethodName)) ∈ lw_tbl := tk_5 (List.mem_of_getElem? (i := 92) rfl)
theorem li_L_136 : kLH RL 136 yL_chain cL_chain 5 (some .int) [(0, 10, 13, 18)] 4 := ⟨tw_1051, tw_1052, tw_1053, tw_0, by decide +kernel⟩
theorem dL_law_560 : decode cL_law 560 = .ok (.invokestatic 136, 3) := by decide +kernel
theorem dL_law_563 : decode cL_law 563 = .ok (.istore 5, 2) := by decide +kernel
theorem dL_law_565 : decode cL_law 565 = .ok (.aload_n 2, 1) := by decide +kernel
theorem dL_law_566 : decode cL_law 566 = .ok (.aload_n 0, 1) := by decide +kernel
theorem dL_law_567 : decode cL_law 567 = .ok (.iload 4, 2) := by decide +kernel
theorem dL_law_569 : decode cL_law 569 = .ok (.iconst 1, 1) := by decide +kernel
theorem dL_law_570 : decode cL_law 570 = .ok (.iadd, 1) := by decide +kernel
theorem dL_law_571 : decode cL_law 571 = .ok (.iaload, 1) := by decide +kernel
theorem dL_law_572 : decode cL_law 572 = .ok (.aload_n 0, 1) := by decide +kernel
theorem dL_law_573 : decode cL_law 573 = .ok (.iload 4, 2) := by decide +kernel
theorem dL_law_575 : decode cL_law 575 = .ok (.iconst 2, 1) := by decide +kernel
theorem dL_law_576 : decode cL_law 576 = .ok (.iadd, 1) := by decide +kernel
theorem dL_law_577 : decode cL_law 577 = .ok (.iaload, 1) := by decide +kernel
theorem tw_1891 : (Jvm.Cond.methodLink "MarshBellsLaw" (138 : Nat) ({ cls := "MarshBellsModel", name := "chain", desc := "(II)I" } : Jvm.MethodName)) ∈ lw_tbl := tk_8 (List.mem_of_getElem? (i := 211) rfl)
theorem tw_1894 : (Jvm.Cond.code ({ cls := "MarshBellsModel", name := "chain", desc := "(II)I" } : Jvm.MethodName) prog_14_method_56_code (5 : Nat) (Option.some Jvm.ClassFile.FieldType.int)) ∈ lw_tbl := tk_8 (List.mem_of_getElem? (i := 214) rfl)
theorem tw_1892 : (Jvm.Cond.instanceMethod ({ cls := "MarshBellsModel", name := "chain", desc := "(II)I" } : Jvm.MethodName)) ∈ lw_tbl := tk_8 (List.mem_of_getElem? (i := 212) rfl)
theorem tw_1893 : (Jvm.Cond.selects "MarshBellsModel" ({ cls := "MarshBellsModel", name := "chain", desc := "(II)I" } : Jvm.MethodName) ({ cls := "MarshBellsModel", name := "chain", desc := "(II)I" } : Jvm.MethodName)) ∈ lw_tbl := tk_8 (List.mem_of_getElem? (i := 213) rfl)
theorem li_L_138 : kLV RL 138 RX12 yX12_chain cX12_chain 5 (some .int) 2 := ⟨tw_1891, tw_1892, tw_1893, tw_1894, tw_13, by decide +kernel⟩
theorem dL_law_578 : decode cL_law 578 = .ok (.invokevirtual 138, 3) := by decide +kernel
theorem dL_law_581 : decode cL_law 581 = .ok (.istore 6, 2) := by decide +kernel
theorem dL_law_583 : decode cL_law 583 = .ok (.aload_n 2, 1) := by decide +kernel
theorem dL_law_584 : decode cL_law 584 = .ok (.invokevirtual 118, 3) := by decide +kernel
theorem dL_law_587 : decode cL_law 587 = .ok (.iload 5, 2) := by decide +kernel
theorem dL_law_589 : decode cL_law 589 = .ok (.if_icmp .eq 5, 3) := by decide +kernel
theorem dL_law_594 : decode cL_law 594 = .ok (.iload 5, 2) := by decide +kernel
theorem dL_law_596 : decode cL_law 596 = .ok (.ifCond .ne 15, 3) := by decide +kernel
theorem dL_law_611 : decode cL_law 611 = .ok (.goto 1654, 3) := by decide +kernel
theorem dL_law_614 : decode cL_law 614 = .ok (.aload_n 1, 1) := by decide +kernel
theorem dL_law_615 : decode cL_law 615 = .ok (.aload_n 0, 1) := by decide +kernel
theorem dL_law_616 : decode cL_law 616 = .ok (.iload 4, 2) := by decide +kernel
theorem dL_law_618 : decode cL_law 618 = .ok (.iconst 1, 1) := by decide +kernel
theorem dL_law_619 : decode cL_law 619 = .ok (.iadd, 1) := by decide +kernel
theorem dL_law_620 : decode cL_law 620 = .ok (.iaload, 1) := by decide +kernel
theorem dL_law_621 : decode cL_law 621 = .ok (.aload_n 0, 1) := by decide +kernel
theorem dL_law_622 : decode cL_law 622 = .ok (.iload 4, 2) := by decide +kernel
theorem dL_law_624 : decode cL_law 624 = .ok (.iconst 2, 1) := by decide +kernel
theorem dL_law_625 : decode cL_law 625 = .ok (.iadd, 1) := by decide +kernel
theorem dL_law_626 : decode cL_law 626 = .ok (.iaload, 1) := by decide +kernel
theorem dL_law_627 : decode cL_law 627 = .ok (.aload_n 0, 1) := by decide +kernel
theorem dL_law_628 : decode cL_law 628 = .ok (.iload 4, 2) := by decide +kernel
theorem dL_law_630 : decode cL_law 630 = .ok (.iconst 3, 1) := by decide +kernel
theorem dL_law_631 : decode cL_law 631 = .ok (.iadd, 1) := by decide +kernel
theorem dL_law_632 : decode cL_law 632 = .ok (.iaload, 1) := by decide +kernel
theorem dL_law_633 : decode cL_law 633 = .ok (.aload_n 3, 1) := by decide +kernel
theorem tw_1058 : (Jvm.Cond.methodLink "MarshBellsLaw" (139 : Nat) ({ cls := "MarshBellsLaw", name := "become", desc := "(LMarshBells;III[J)I" } : Jvm.MethodName)) ∈ lw_tbl := tk_5 (List.mem_of_getElem? (i := 98) rfl)
theorem tw_1060 : (Jvm.Cond.codeWith ({ cls := "MarshBellsLaw", name := "become", desc := "(LMarshBells;III[J)I" } : Jvm.MethodName) method_8_code (6 : Nat) (Option.some Jvm.ClassFile.FieldType.int) [((0 : Nat), (12 : Nat), (15 : Nat), (18 : Nat))]) ∈ lw_tbl := tk_5 (List.mem_of_getElem? (i := 100) rfl)
theorem tw_1059 : (Jvm.Cond.static ({ cls := "MarshBellsLaw", name := "become", desc := "(LMarshBells;III[J)I" } : Jvm.MethodName)) ∈ lw_tbl := tk_5 (List.mem_of_getElem? (i := 99) rfl)
theorem li_L_139 : kLH RL 139 yL_become cL_become 6 (some .int) [(0, 12, 15, 18)] 5 := ⟨tw_1058, tw_1059, tw_1060, tw_0, by decide +kernel⟩
theorem dL_law_634 : decode cL_law 634 = .ok (.invokestatic 139, 3) := by decide +kernel
theorem dL_law_637 : decode cL_law 637 = .ok (.istore 5, 2) := by decide +kernel
theorem dL_law_639 : decode cL_law 639 = .ok (.aload_n 2, 1) := by decide +kernel
theorem dL_law_640 : decode cL_law 640 = .ok (.aload_n 0, 1) := by decide +kernel
theorem dL_law_641 : decode cL_law 641 = .ok (.iload 4, 2) := by decide +kernel
theorem dL_law_643 : decode cL_law 643 = .ok (.iconst 1, 1) := by decide +kernel
theorem dL_law_644 : decode cL_law 644 = .ok (.iadd, 1) := by decide +kernel
theorem dL_law_645 : decode cL_law 645 = .ok (.iaload, 1) := by decide +kernel
theorem dL_law_646 : decode cL_law 646 = .ok (.aload_n 0, 1) := by decide +kernel
theorem dL_law_647 : decode cL_law 647 = .ok (.iload 4, 2) := by decide +kernel
theorem dL_law_649 : decode cL_law 649 = .ok (.iconst 2, 1) := by decide +kernel
theorem dL_law_650 : decode cL_law 650 = .ok (.iadd, 1) := by decide +kernel
theorem dL_law_651 : decode cL_law 651 = .ok (.iaload, 1) := by decide +kernel
theorem dL_law_652 : decode cL_law 652 = .ok (.aload_n 0, 1) := by decide +kernel
theorem dL_law_653 : decode cL_law 653 = .ok (.iload 4, 2) := by decide +kernel
theorem dL_law_655 : decode cL_law 655 = .ok (.iconst 3, 1) := by decide +kernel
theorem dL_law_656 : decode cL_law 656 = .ok (.iadd, 1) := by decide +kernel
theorem dL_law_657 : decode cL_law 657 = .ok (.iaload, 1) := by decide +kernel
theorem tw_1895 : (Jvm.Cond.methodLink "MarshBellsLaw" (142 : Nat) ({ cls := "MarshBellsModel", name := "become", desc := "(III)I" } : Jvm.MethodName)) ∈ lw_tbl := tk_8 (List.mem_of_getElem? (i := 215) rfl)
theorem tw_1898 : (Jvm.Cond.code ({ cls := "MarshBellsModel", name := "become", desc := "(III)I" } : Jvm.MethodName) prog_14_method_59_code (6 : Nat) (Option.some Jvm.ClassFile.FieldType.int)) ∈ lw_tbl := tk_8 (List.mem_of_getElem? (i := 218) rfl)
theorem tw_1896 : (Jvm.Cond.instanceMethod ({ cls := "MarshBellsModel", name := "become", desc := "(III)I" } : Jvm.MethodName)) ∈ lw_tbl := tk_8 (List.mem_of_getElem? (i := 216) rfl)
theorem tw_1897 : (Jvm.Cond.selects "MarshBellsModel" ({ cls := "MarshBellsModel", name := "become", desc := "(III)I" } : Jvm.MethodName) ({ cls := "MarshBellsModel", name := "become", desc := "(III)I" } : Jvm.MethodName)) ∈ lw_tbl := tk_8 (List.mem_of_getElem? (i := 217) rfl)
theorem li_L_142 : kLV RL 142 RX12 yX12_become cX12_become 6 (some .int) 3 := ⟨tw_1895, tw_1896, tw_1897, tw_1898, tw_13, by decide +kernel⟩
theorem dL_law_658 : decode cL_law 658 = .ok (.invokevirtual 142, 3) := by decide +kernel
theorem dL_law_661 : decode cL_law 661 = .ok (.istore 6, 2) := by decide +kernel
theorem dL_law_663 : decode cL_law 663 = .ok (.aload_n 2, 1) := by decide +kernel
theorem dL_law_664 : decode cL_law 664 = .ok (.invokevirtual 118, 3) := by decide +kernel
theorem dL_law_667 : decode cL_law 667 = .ok (.iload 5, 2) := by decide +kernel
theorem dL_law_669 : decode cL_law 669 = .ok (.if_icmp .eq 5, 3) := by decide +kernel
theorem dL_law_674 : decode cL_law 674 = .ok (.iload 5, 2) := by decide +kernel
theorem dL_law_676 : decode cL_law 676 = .ok (.ifCond .ne 15, 3) := by decide +kernel
theorem dL_law_691 : decode cL_law 691 = .ok (.goto 1574, 3) := by decide +kernel
set_option maxHeartbeats 4000000 in
set_option maxRecDepth 100000 in
theorem law_0 {p : Program} {e : Env} {s : State} {m : MethodId} {below : List Frame} {meth : Method} {c : Code} {l : Launch} (hst : l.stackTraces = false) {b : Nat} {xs : Nat → Int32} {G : kG} {A : Nat → Prop} (C0 : lw_At p s m meth c b 6 xs) (hA : A = fun q : Nat => s.heap.size ≤ q) (C : kC G p s m c cL_law 8 RL A) {v1 : Int32} (hv1 : xs 1 = v1) {v2 : Int32} (hv2 : xs 2 = v2) {v3 : Int32} (hv3 : xs 3 = v3) {v4 : Int32} (hv4 : xs 4 = v4) {v5 : Int32} (hv5 : xs 5 = v5) {x0 : Nat} {Fx0 : Nat → Value} {x1 : Nat} {m0 : Nat} {Fm0 : Nat → Value} {m13 : Nat} {aout : Nat} (e_x0_0 : Fx0 0 = .ref x1) (e_x0_13 : Fx0 13 = .int 0) (e_m0_17 : Fm0 17 = .ref m13) (e_m0_18 : Fm0 18 = .int 0) {H : Heap} {locs : List Loc} {ls : Array Slot} (hP : va_P G.1 vwCl [(x0, .inr (11, ofL 17 Fx0)), (x1, .inl (G.2.1, 700, .inl (fun _ => 0))), (m0, .inr (12, ofL 88 Fm0)), (m13, .inl (G.2.1, 700, .inl (fun _ => 0)))] H) (hD : va_D A [(x0, .inr (11, ofL 17 Fx0)), (x1, .inl (G.2.1, 700, .inl (fun _ => 0))), (m0, .inr (12, ofL 88 Fm0)), (m13, .inl (G.2.1, 700, .inl (fun _ => 0)))]) (hS : va_S A s.heap H locs) (hl : lv_has ls 8 [(0, .ref b), (1, .ref x0), (2, .ref m0), (3, .ref aout), (4, .int 0)]) :
    W p l e room_1 s m #[Value.ref b] below meth c H locs 1000 20000 (lw_Z below #[Value.ref b] s) (F0 m 212 ls []) := by
  obtain ⟨hx, hb, hr, -, -, -, hX, hbl, hlocks, -⟩ := id C0
  have hbA : ¬ A b := by rw [hA]; exact Nat.not_le.mpr hbl
  refine lv_aload_n hx hb dL_law_212 rfl (lv_at hl 1 rfl) ?_
  refine lv_aload_n hx hb dL_law_213 rfl (lv_at hl 0 rfl) ?_
  refine lv_iload hx hb dL_law_214 (lv_at hl 4 rfl) ?_
  refine lv_iconst (v := 1) hx hb dL_law_216 (by decide) ?_
  refine lv_iadd hx hb dL_law_217 ?_
  refine k_eqi (y := 1) (by decide) ?_
  refine va_sld hx hb hX hbl hbA hS (k_in (by decide)) dL_law_218 ?_
  refine k_eqi (y := v1) hv1 ?_
  refine lv_aload_n hx hb dL_law_219 rfl (lv_at hl 0 rfl) ?_
  refine lv_iload hx hb dL_law_220 (lv_at hl 4 rfl) ?_
  refine lv_iconst (v := 2) hx hb dL_law_222 (by decide) ?_
  refine lv_iadd hx hb dL_law_223 ?_
  refine k_eqi (y := 2) (by decide) ?_
  refine va_sld hx hb hX hbl hbA hS (k_in (by decide)) dL_law_224 ?_
  refine k_eqi (y := v2) hv2 ?_
  refine lv_aload_n hx hb dL_law_225 rfl (lv_at hl 0 rfl) ?_
  refine lv_iload hx hb dL_law_226 (lv_at hl 4 rfl) ?_
  refine lv_iconst (v := 3) hx hb dL_law_228 (by decide) ?_
  refine lv_iadd hx hb dL_law_229 ?_
  refine k_eqi (y := 3) (by decide) ?_
  refine va_sld hx hb hX hbl hbA hS (k_in (by decide)) dL_law_230 ?_
  refine k_eqi (y := v3) hv3 ?_
  refine lv_aload_n hx hb dL_law_231 rfl (lv_at hl 0 rfl) ?_
  refine lv_iload hx hb dL_law_232 (lv_at hl 4 rfl) ?_
  refine lv_iconst (v := 4) hx hb dL_law_234 (by decide) ?_
  refine lv_iadd hx hb dL_law_235 ?_
  refine k_eqi (y := 4) (by decide) ?_
  refine va_sld hx hb hX hbl hbA hS (k_in (by decide)) dL_law_236 ?_
  refine k_eqi (y := v4) hv4 ?_
  refine lv_aload_n hx hb dL_law_237 rfl (lv_at hl 0 rfl) ?_
  refine lv_iload hx hb dL_law_238 (lv_at hl 4 rfl) ?_
  refine lv_iconst (v := 5) hx hb dL_law_240 (by decide) ?_
  refine lv_iadd hx hb dL_law_241 ?_
  refine k_eqi (y := 5) (by decide) ?_
  refine va_sld hx hb hX hbl hbA hS (k_in (by decide)) dL_law_242 ?_
  refine k_eqi (y := v5) hv5 ?_
  refine k_callVi (wr := [(m0, .inr (12, ofL 88 Fm0)), (m13, .inl (G.2.1, 700, .inl (fun _ => 0)))]) (rest := []) li_L_107 C (c_X11_feed l G H.size x0 v1 v2 v3 v4 v5 Fx0 x1 (fun _ => 0) e_x0_0 e_x0_13) (kR rfl) hP hD hS [0, 1] [2, 3] rfl rfl rfl rfl (by decide) 0 11 rfl rfl rfl hl.1 rfl (Nat.le_of_ble_eq_true rfl) dL_law_243 (fun rr2 uu3 H locs hw1 hP hD hS => ?_)
  obtain rfl : rr2 = 20 := hw1
  have hP : va_P G.1 vwCl [(m0, .inr (12, ofL 88 Fm0)), (m13, .inl (G.2.1, 700, .inl (fun _ => 0))), (x0, .inr (11, ofL 17 (updV (updV (updV (updV (updV (updV (updV (updV (updV (updV (updV (updV (updV (updV (updV (updV (updV (updV (updV (updV Fx0 13 (.int 1)) 13 (.int 2)) 13 (.int 3)) 13 (.int 4)) 13 (.int 5)) 13 (.int 6)) 13 (.int 7)) 13 (.int 8)) 13 (.int 9)) 13 (.int 10)) 13 (.int 11)) 13 (.int 12)) 13 (.int 13)) 13 (.int 14)) 13 (.int 15)) 13 (.int 16)) 13 (.int 17)) 13 (.int 18)) 13 (.int 19)) 13 (.int 20)))), (x1, .inl (G.2.1, 700, .inl (upd (upd (upd (upd (upd (upd (upd (upd (upd (upd (upd (upd (upd (upd (upd (upd (upd (upd (upd (upd (fun _ => 0) 0 (((v1.toUInt32 >>> ((24 : Int32).toUInt32 &&& Int32.toUInt32 31)).toInt32) &&& 255)) 1 (((v1.toUInt32 >>> ((16 : Int32).toUInt32 &&& Int32.toUInt32 31)).toInt32) &&& 255)) 2 (((v1.toUInt32 >>> ((8 : Int32).toUInt32 &&& Int32.toUInt32 31)).toInt32) &&& 255)) 3 (((v1.toUInt32 >>> ((0 : Int32).toUInt32 &&& Int32.toUInt32 31)).toInt32) &&& 255)) 4 (((v2.toUInt32 >>> ((24 : Int32).toUInt32 &&& Int32.toUInt32 31)).toInt32) &&& 255)) 5 (((v2.toUInt32 >>> ((16 : Int32).toUInt32 &&& Int32.toUInt32 31)).toInt32) &&& 255)) 6 (((v2.toUInt32 >>> ((8 : Int32).toUInt32 &&& Int32.toUInt32 31)).toInt32) &&& 255)) 7 (((v2.toUInt32 >>> ((0 : Int32).toUInt32 &&& Int32.toUInt32 31)).toInt32) &&& 255)) 8 (((v3.toUInt32 >>> ((24 : Int32).toUInt32 &&& Int32.toUInt32 31)).toInt32) &&& 255)) 9 (((v3.toUInt32 >>> ((16 : Int32).toUInt32 &&& Int32.toUInt32 31)).toInt32) &&& 255)) 10 (((v3.toUInt32 >>> ((8 : Int32).toUInt32 &&& Int32.toUInt32 31)).toInt32) &&& 255)) 11 (((v3.toUInt32 >>> ((0 : Int32).toUInt32 &&& Int32.toUInt32 31)).toInt32) &&& 255)) 12 (((v4.toUInt32 >>> ((24 : Int32).toUInt32 &&& Int32.toUInt32 31)).toInt32) &&& 255)) 13 (((v4.toUInt32 >>> ((16 : Int32).toUInt32 &&& Int32.toUInt32 31)).toInt32) &&& 255)) 14 (((v4.toUInt32 >>> ((8 : Int32).toUInt32 &&& Int32.toUInt32 31)).toInt32) &&& 255)) 15 (((v4.toUInt32 >>> ((0 : Int32).toUInt32 &&& Int32.toUInt32 31)).toInt32) &&& 255)) 16 (((v5.toUInt32 >>> ((24 : Int32).toUInt32 &&& Int32.toUInt32 31)).toInt32) &&& 255)) 17 (((v5.toUInt32 >>> ((16 : Int32).toUInt32 &&& Int32.toUInt32 31)).toInt32) &&& 255)) 18 (((v5.toUInt32 >>> ((8 : Int32).toUInt32 &&& Int32.toUInt32 31)).toInt32) &&& 255)) 19 (((v5.toUInt32 >>> ((0 : Int32).toUInt32 &&& Int32.toUInt32 31)).toInt32) &&& 255))))] H := hP
  have hD : va_D A [(m0, .inr (12, ofL 88 Fm0)), (m13, .inl (G.2.1, 700, .inl (fun _ => 0))), (x0, .inr (11, ofL 17 (updV (updV (updV (updV (updV (updV (updV (updV (updV (updV (updV (updV (updV (updV (updV (updV (updV (updV (updV (updV Fx0 13 (.int 1)) 13 (.int 2)) 13 (.int 3)) 13 (.int 4)) 13 (.int 5)) 13 (.int 6)) 13 (.int 7)) 13 (.int 8)) 13 (.int 9)) 13 (.int 10)) 13 (.int 11)) 13 (.int 12)) 13 (.int 13)) 13 (.int 14)) 13 (.int 15)) 13 (.int 16)) 13 (.int 17)) 13 (.int 18)) 13 (.int 19)) 13 (.int 20)))), (x1, .inl (G.2.1, 700, .inl (upd (upd (upd (upd (upd (upd (upd (upd (upd (upd (upd (upd (upd (upd (upd (upd (upd (upd (upd (upd (fun _ => 0) 0 (((v1.toUInt32 >>> ((24 : Int32).toUInt32 &&& Int32.toUInt32 31)).toInt32) &&& 255)) 1 (((v1.toUInt32 >>> ((16 : Int32).toUInt32 &&& Int32.toUInt32 31)).toInt32) &&& 255)) 2 (((v1.toUInt32 >>> ((8 : Int32).toUInt32 &&& Int32.toUInt32 31)).toInt32) &&& 255)) 3 (((v1.toUInt32 >>> ((0 : Int32).toUInt32 &&& Int32.toUInt32 31)).toInt32) &&& 255)) 4 (((v2.toUInt32 >>> ((24 : Int32).toUInt32 &&& Int32.toUInt32 31)).toInt32) &&& 255)) 5 (((v2.toUInt32 >>> ((16 : Int32).toUInt32 &&& Int32.toUInt32 31)).toInt32) &&& 255)) 6 (((v2.toUInt32 >>> ((8 : Int32).toUInt32 &&& Int32.toUInt32 31)).toInt32) &&& 255)) 7 (((v2.toUInt32 >>> ((0 : Int32).toUInt32 &&& Int32.toUInt32 31)).toInt32) &&& 255)) 8 (((v3.toUInt32 >>> ((24 : Int32).toUInt32 &&& Int32.toUInt32 31)).toInt32) &&& 255)) 9 (((v3.toUInt32 >>> ((16 : Int32).toUInt32 &&& Int32.toUInt32 31)).toInt32) &&& 255)) 10 (((v3.toUInt32 >>> ((8 : Int32).toUInt32 &&& Int32.toUInt32 31)).toInt32) &&& 255)) 11 (((v3.toUInt32 >>> ((0 : Int32).toUInt32 &&& Int32.toUInt32 31)).toInt32) &&& 255)) 12 (((v4.toUInt32 >>> ((24 : Int32).toUInt32 &&& Int32.toUInt32 31)).toInt32) &&& 255)) 13 (((v4.toUInt32 >>> ((16 : Int32).toUInt32 &&& Int32.toUInt32 31)).toInt32) &&& 255)) 14 (((v4.toUInt32 >>> ((8 : Int32).toUInt32 &&& Int32.toUInt32 31)).toInt32) &&& 255)) 15 (((v4.toUInt32 >>> ((0 : Int32).toUInt32 &&& Int32.toUInt32 31)).toInt32) &&& 255)) 16 (((v5.toUInt32 >>> ((24 : Int32).toUInt32 &&& Int32.toUInt32 31)).toInt32) &&& 255)) 17 (((v5.toUInt32 >>> ((16 : Int32).toUInt32 &&& Int32.toUInt32 31)).toInt32) &&& 255)) 18 (((v5.toUInt32 >>> ((8 : Int32).toUInt32 &&& Int32.toUInt32 31)).toInt32) &&& 255)) 19 (((v5.toUInt32 >>> ((0 : Int32).toUInt32 &&& Int32.toUInt32 31)).toInt32) &&& 255))))] := hD
  refine lv_aload_n hx hb dL_law_246 rfl (lv_at hl 2 rfl) ?_
  refine lv_aload_n hx hb dL_law_247 rfl (lv_at hl 0 rfl) ?_
  refine lv_iload hx hb dL_law_248 (lv_at hl 4 rfl) ?_
  refine lv_iconst (v := 1) hx hb dL_law_250 (by decide) ?_
  refine lv_iadd hx hb dL_law_251 ?_
  refine k_eqi (y := 1) (by decide) ?_
  refine va_sld hx hb hX hbl hbA hS (k_in (by decide)) dL_law_252 ?_
  refine k_eqi (y := v1) hv1 ?_
  refine lv_aload_n hx hb dL_law_253 rfl (lv_at hl 0 rfl) ?_
  refine lv_iload hx hb dL_law_254 (lv_at hl 4 rfl) ?_
  refine lv_iconst (v := 2) hx hb dL_law_256 (by decide) ?_
  refine lv_iadd hx hb dL_law_257 ?_
  refine k_eqi (y := 2) (by decide) ?_
  refine va_sld hx hb hX hbl hbA hS (k_in (by decide)) dL_law_258 ?_
  refine k_eqi (y := v2) hv2 ?_
  refine lv_aload_n hx hb dL_law_259 rfl (lv_at hl 0 rfl) ?_
  refine lv_iload hx hb dL_law_260 (lv_at hl 4 rfl) ?_
  refine lv_iconst (v := 3) hx hb dL_law_262 (by decide) ?_
  refine lv_iadd hx hb dL_law_263 ?_
  refine k_eqi (y := 3) (by decide) ?_
  refine va_sld hx hb hX hbl hbA hS (k_in (by decide)) dL_law_264 ?_
  refine k_eqi (y := v3) hv3 ?_
  refine lv_aload_n hx hb dL_law_265 rfl (lv_at hl 0 rfl) ?_
  refine lv_iload hx hb dL_law_266 (lv_at hl 4 rfl) ?_
  refine lv_iconst (v := 4) hx hb dL_law_268 (by decide) ?_
  refine lv_iadd hx hb dL_law_269 ?_
  refine k_eqi (y := 4) (by decide) ?_
  refine va_sld hx hb hX hbl hbA hS (k_in (by decide)) dL_law_270 ?_
  refine k_eqi (y := v4) hv4 ?_
  refine lv_aload_n hx hb dL_law_271 rfl (lv_at hl 0 rfl) ?_
  refine lv_iload hx hb dL_law_272 (lv_at hl 4 rfl) ?_
  refine lv_iconst (v := 5) hx hb dL_law_274 (by decide) ?_
  refine lv_iadd hx hb dL_law_275 ?_
  refine k_eqi (y := 5) (by decide) ?_
  refine va_sld hx hb hX hbl hbA hS (k_in (by decide)) dL_law_276 ?_
  refine k_eqi (y := v5) hv5 ?_
  refine k_callVi (wr := [(x0, .inr (11, ofL 17 (updV (updV (updV (updV (updV (updV (updV (updV (updV (updV (updV (updV (updV (updV (updV (updV (updV (updV (updV (updV Fx0 13 (.int 1)) 13 (.int 2)) 13 (.int 3)) 13 (.int 4)) 13 (.int 5)) 13 (.int 6)) 13 (.int 7)) 13 (.int 8)) 13 (.int 9)) 13 (.int 10)) 13 (.int 11)) 13 (.int 12)) 13 (.int 13)) 13 (.int 14)) 13 (.int 15)) 13 (.int 16)) 13 (.int 17)) 13 (.int 18)) 13 (.int 19)) 13 (.int 20)))), (x1, .inl (G.2.1, 700, .inl (upd (upd (upd (upd (upd (upd (upd (upd (upd (upd (upd (upd (upd (upd (upd (upd (upd (upd (upd (upd (fun _ => 0) 0 (((v1.toUInt32 >>> ((24 : Int32).toUInt32 &&& Int32.toUInt32 31)).toInt32) &&& 255)) 1 (((v1.toUInt32 >>> ((16 : Int32).toUInt32 &&& Int32.toUInt32 31)).toInt32) &&& 255)) 2 (((v1.toUInt32 >>> ((8 : Int32).toUInt32 &&& Int32.toUInt32 31)).toInt32) &&& 255)) 3 (((v1.toUInt32 >>> ((0 : Int32).toUInt32 &&& Int32.toUInt32 31)).toInt32) &&& 255)) 4 (((v2.toUInt32 >>> ((24 : Int32).toUInt32 &&& Int32.toUInt32 31)).toInt32) &&& 255)) 5 (((v2.toUInt32 >>> ((16 : Int32).toUInt32 &&& Int32.toUInt32 31)).toInt32) &&& 255)) 6 (((v2.toUInt32 >>> ((8 : Int32).toUInt32 &&& Int32.toUInt32 31)).toInt32) &&& 255)) 7 (((v2.toUInt32 >>> ((0 : Int32).toUInt32 &&& Int32.toUInt32 31)).toInt32) &&& 255)) 8 (((v3.toUInt32 >>> ((24 : Int32).toUInt32 &&& Int32.toUInt32 31)).toInt32) &&& 255)) 9 (((v3.toUInt32 >>> ((16 : Int32).toUInt32 &&& Int32.toUInt32 31)).toInt32) &&& 255)) 10 (((v3.toUInt32 >>> ((8 : Int32).toUInt32 &&& Int32.toUInt32 31)).toInt32) &&& 255)) 11 (((v3.toUInt32 >>> ((0 : Int32).toUInt32 &&& Int32.toUInt32 31)).toInt32) &&& 255)) 12 (((v4.toUInt32 >>> ((24 : Int32).toUInt32 &&& Int32.toUInt32 31)).toInt32) &&& 255)) 13 (((v4.toUInt32 >>> ((16 : Int32).toUInt32 &&& Int32.toUInt32 31)).toInt32) &&& 255)) 14 (((v4.toUInt32 >>> ((8 : Int32).toUInt32 &&& Int32.toUInt32 31)).toInt32) &&& 255)) 15 (((v4.toUInt32 >>> ((0 : Int32).toUInt32 &&& Int32.toUInt32 31)).toInt32) &&& 255)) 16 (((v5.toUInt32 >>> ((24 : Int32).toUInt32 &&& Int32.toUInt32 31)).toInt32) &&& 255)) 17 (((v5.toUInt32 >>> ((16 : Int32).toUInt32 &&& Int32.toUInt32 31)).toInt32) &&& 255)) 18 (((v5.toUInt32 >>> ((8 : Int32).toUInt32 &&& Int32.toUInt32 31)).toInt32) &&& 255)) 19 (((v5.toUInt32 >>> ((0 : Int32).toUInt32 &&& Int32.toUInt32 31)).toInt32) &&& 255))))]) (rest := [.int 20]) li_L_111 C (c_X12_feed l G H.size m0 v1 v2 v3 v4 v5 Fm0 m13 (fun _ => 0) e_m0_17 e_m0_18) (kR rfl) hP hD hS [0, 1] [2, 3] rfl rfl rfl rfl (by decide) 0 12 rfl rfl rfl hl.1 rfl (Nat.le_of_ble_eq_true rfl) dL_law_277 (fun rr5 uu6 H locs hw4 hP hD hS => ?_)
  obtain rfl : rr5 = 20 := hw4
  have hP : va_P G.1 vwCl [(x0, .inr (11, ofL 17 (updV (updV (updV (updV (updV (updV (updV (updV (updV (updV (updV (updV (updV (updV (updV (updV (updV (updV (updV (updV Fx0 13 (.int 1)) 13 (.int 2)) 13 (.int 3)) 13 (.int 4)) 13 (.int 5)) 13 (.int 6)) 13 (.int 7)) 13 (.int 8)) 13 (.int 9)) 13 (.int 10)) 13 (.int 11)) 13 (.int 12)) 13 (.int 13)) 13 (.int 14)) 13 (.int 15)) 13 (.int 16)) 13 (.int 17)) 13 (.int 18)) 13 (.int 19)) 13 (.int 20)))), (x1, .inl (G.2.1, 700, .inl (upd (upd (upd (upd (upd (upd (upd (upd (upd (upd (upd (upd (upd (upd (upd (upd (upd (upd (upd (upd (fun _ => 0) 0 (((v1.toUInt32 >>> ((24 : Int32).toUInt32 &&& Int32.toUInt32 31)).toInt32) &&& 255)) 1 (((v1.toUInt32 >>> ((16 : Int32).toUInt32 &&& Int32.toUInt32 31)).toInt32) &&& 255)) 2 (((v1.toUInt32 >>> ((8 : Int32).toUInt32 &&& Int32.toUInt32 31)).toInt32) &&& 255)) 3 (((v1.toUInt32 >>> ((0 : Int32).toUInt32 &&& Int32.toUInt32 31)).toInt32) &&& 255)) 4 (((v2.toUInt32 >>> ((24 : Int32).toUInt32 &&& Int32.toUInt32 31)).toInt32) &&& 255)) 5 (((v2.toUInt32 >>> ((16 : Int32).toUInt32 &&& Int32.toUInt32 31)).toInt32) &&& 255)) 6 (((v2.toUInt32 >>> ((8 : Int32).toUInt32 &&& Int32.toUInt32 31)).toInt32) &&& 255)) 7 (((v2.toUInt32 >>> ((0 : Int32).toUInt32 &&& Int32.toUInt32 31)).toInt32) &&& 255)) 8 (((v3.toUInt32 >>> ((24 : Int32).toUInt32 &&& Int32.toUInt32 31)).toInt32) &&& 255)) 9 (((v3.toUInt32 >>> ((16 : Int32).toUInt32 &&& Int32.toUInt32 31)).toInt32) &&& 255)) 10 (((v3.toUInt32 >>> ((8 : Int32).toUInt32 &&& Int32.toUInt32 31)).toInt32) &&& 255)) 11 (((v3.toUInt32 >>> ((0 : Int32).toUInt32 &&& Int32.toUInt32 31)).toInt32) &&& 255)) 12 (((v4.toUInt32 >>> ((24 : Int32).toUInt32 &&& Int32.toUInt32 31)).toInt32) &&& 255)) 13 (((v4.toUInt32 >>> ((16 : Int32).toUInt32 &&& Int32.toUInt32 31)).toInt32) &&& 255)) 14 (((v4.toUInt32 >>> ((8 : Int32).toUInt32 &&& Int32.toUInt32 31)).toInt32) &&& 255)) 15 (((v4.toUInt32 >>> ((0 : Int32).toUInt32 &&& Int32.toUInt32 31)).toInt32) &&& 255)) 16 (((v5.toUInt32 >>> ((24 : Int32).toUInt32 &&& Int32.toUInt32 31)).toInt32) &&& 255)) 17 (((v5.toUInt32 >>> ((16 : Int32).toUInt32 &&& Int32.toUInt32 31)).toInt32) &&& 255)) 18 (((v5.toUInt32 >>> ((8 : Int32).toUInt32 &&& Int32.toUInt32 31)).toInt32) &&& 255)) 19 (((v5.toUInt32 >>> ((0 : Int32).toUInt32 &&& Int32.toUInt32 31)).toInt32) &&& 255)))), (m0, .inr (12, ofL 88 (updV (updV (updV (updV (updV (updV (updV (updV (updV (updV (updV (updV (updV (updV (updV (updV (updV (updV (updV (updV (updV Fm0 0 (.int 0)) 18 (.int 1)) 18 (.int 2)) 18 (.int 3)) 18 (.int 4)) 18 (.int 5)) 18 (.int 6)) 18 (.int 7)) 18 (.int 8)) 18 (.int 9)) 18 (.int 10)) 18 (.int 11)) 18 (.int 12)) 18 (.int 13)) 18 (.int 14)) 18 (.int 15)) 18 (.int 16)) 18 (.int 17)) 18 (.int 18)) 18 (.int 19)) 18 (.int 20)))), (m13, .inl (G.2.1, 700, .inl (upd (upd (upd (upd (upd (upd (upd (upd (upd (upd (upd (upd (upd (upd (upd (upd (upd (upd (upd (upd (fun _ => 0) 0 ((v1 >>> (24 &&& 31)) &&& 255)) 1 ((v1 >>> (16 &&& 31)) &&& 255)) 2 ((v1 >>> (8 &&& 31)) &&& 255)) 3 ((v1 >>> (0 &&& 31)) &&& 255)) 4 ((v2 >>> (24 &&& 31)) &&& 255)) 5 ((v2 >>> (16 &&& 31)) &&& 255)) 6 ((v2 >>> (8 &&& 31)) &&& 255)) 7 ((v2 >>> (0 &&& 31)) &&& 255)) 8 ((v3 >>> (24 &&& 31)) &&& 255)) 9 ((v3 >>> (16 &&& 31)) &&& 255)) 10 ((v3 >>> (8 &&& 31)) &&& 255)) 11 ((v3 >>> (0 &&& 31)) &&& 255)) 12 ((v4 >>> (24 &&& 31)) &&& 255)) 13 ((v4 >>> (16 &&& 31)) &&& 255)) 14 ((v4 >>> (8 &&& 31)) &&& 255)) 15 ((v4 >>> (0 &&& 31)) &&& 255)) 16 ((v5 >>> (24 &&& 31)) &&& 255)) 17 ((v5 >>> (16 &&& 31)) &&& 255)) 18 ((v5 >>> (8 &&& 31)) &&& 255)) 19 ((v5 >>> (0 &&& 31)) &&& 255))))] H := hP
  have hD : va_D A [(x0, .inr (11, ofL 17 (updV (updV (updV (updV (updV (updV (updV (updV (updV (updV (updV (updV (updV (updV (updV (updV (updV (updV (updV (updV Fx0 13 (.int 1)) 13 (.int 2)) 13 (.int 3)) 13 (.int 4)) 13 (.int 5)) 13 (.int 6)) 13 (.int 7)) 13 (.int 8)) 13 (.int 9)) 13 (.int 10)) 13 (.int 11)) 13 (.int 12)) 13 (.int 13)) 13 (.int 14)) 13 (.int 15)) 13 (.int 16)) 13 (.int 17)) 13 (.int 18)) 13 (.int 19)) 13 (.int 20)))), (x1, .inl (G.2.1, 700, .inl (upd (upd (upd (upd (upd (upd (upd (upd (upd (upd (upd (upd (upd (upd (upd (upd (upd (upd (upd (upd (fun _ => 0) 0 (((v1.toUInt32 >>> ((24 : Int32).toUInt32 &&& Int32.toUInt32 31)).toInt32) &&& 255)) 1 (((v1.toUInt32 >>> ((16 : Int32).toUInt32 &&& Int32.toUInt32 31)).toInt32) &&& 255)) 2 (((v1.toUInt32 >>> ((8 : Int32).toUInt32 &&& Int32.toUInt32 31)).toInt32) &&& 255)) 3 (((v1.toUInt32 >>> ((0 : Int32).toUInt32 &&& Int32.toUInt32 31)).toInt32) &&& 255)) 4 (((v2.toUInt32 >>> ((24 : Int32).toUInt32 &&& Int32.toUInt32 31)).toInt32) &&& 255)) 5 (((v2.toUInt32 >>> ((16 : Int32).toUInt32 &&& Int32.toUInt32 31)).toInt32) &&& 255)) 6 (((v2.toUInt32 >>> ((8 : Int32).toUInt32 &&& Int32.toUInt32 31)).toInt32) &&& 255)) 7 (((v2.toUInt32 >>> ((0 : Int32).toUInt32 &&& Int32.toUInt32 31)).toInt32) &&& 255)) 8 (((v3.toUInt32 >>> ((24 : Int32).toUInt32 &&& Int32.toUInt32 31)).toInt32) &&& 255)) 9 (((v3.toUInt32 >>> ((16 : Int32).toUInt32 &&& Int32.toUInt32 31)).toInt32) &&& 255)) 10 (((v3.toUInt32 >>> ((8 : Int32).toUInt32 &&& Int32.toUInt32 31)).toInt32) &&& 255)) 11 (((v3.toUInt32 >>> ((0 : Int32).toUInt32 &&& Int32.toUInt32 31)).toInt32) &&& 255)) 12 (((v4.toUInt32 >>> ((24 : Int32).toUInt32 &&& Int32.toUInt32 31)).toInt32) &&& 255)) 13 (((v4.toUInt32 >>> ((16 : Int32).toUInt32 &&& Int32.toUInt32 31)).toInt32) &&& 255)) 14 (((v4.toUInt32 >>> ((8 : Int32).toUInt32 &&& Int32.toUInt32 31)).toInt32) &&& 255)) 15 (((v4.toUInt32 >>> ((0 : Int32).toUInt32 &&& Int32.toUInt32 31)).toInt32) &&& 255)) 16 (((v5.toUInt32 >>> ((24 : Int32).toUInt32 &&& Int32.toUInt32 31)).toInt32) &&& 255)) 17 (((v5.toUInt32 >>> ((16 : Int32).toUInt32 &&& Int32.toUInt32 31)).toInt32) &&& 255)) 18 (((v5.toUInt32 >>> ((8 : Int32).toUInt32 &&& Int32.toUInt32 31)).toInt32) &&& 255)) 19 (((v5.toUInt32 >>> ((0 : Int32).toUInt32 &&& Int32.toUInt32 31)).toInt32) &&& 255)))), (m0, .inr (12, ofL 88 (updV (updV (updV (updV (updV (updV (updV (updV (updV (updV (updV (updV (updV (updV (updV (updV (updV (updV (updV (updV (updV Fm0 0 (.int 0)) 18 (.int 1)) 18 (.int 2)) 18 (.int 3)) 18 (.int 4)) 18 (.int 5)) 18 (.int 6)) 18 (.int 7)) 18 (.int 8)) 18 (.int 9)) 18 (.int 10)) 18 (.int 11)) 18 (.int 12)) 18 (.int 13)) 18 (.int 14)) 18 (.int 15)) 18 (.int 16)) 18 (.int 17)) 18 (.int 18)) 18 (.int 19)) 18 (.int 20)))), (m13, .inl (G.2.1, 700, .inl (upd (upd (upd (upd (upd (upd (upd (upd (upd (upd (upd (upd (upd (upd (upd (upd (upd (upd (upd (upd (fun _ => 0) 0 ((v1 >>> (24 &&& 31)) &&& 255)) 1 ((v1 >>> (16 &&& 31)) &&& 255)) 2 ((v1 >>> (8 &&& 31)) &&& 255)) 3 ((v1 >>> (0 &&& 31)) &&& 255)) 4 ((v2 >>> (24 &&& 31)) &&& 255)) 5 ((v2 >>> (16 &&& 31)) &&& 255)) 6 ((v2 >>> (8 &&& 31)) &&& 255)) 7 ((v2 >>> (0 &&& 31)) &&& 255)) 8 ((v3 >>> (24 &&& 31)) &&& 255)) 9 ((v3 >>> (16 &&& 31)) &&& 255)) 10 ((v3 >>> (8 &&& 31)) &&& 255)) 11 ((v3 >>> (0 &&& 31)) &&& 255)) 12 ((v4 >>> (24 &&& 31)) &&& 255)) 13 ((v4 >>> (16 &&& 31)) &&& 255)) 14 ((v4 >>> (8 &&& 31)) &&& 255)) 15 ((v4 >>> (0 &&& 31)) &&& 255)) 16 ((v5 >>> (24 &&& 31)) &&& 255)) 17 ((v5 >>> (16 &&& 31)) &&& 255)) 18 ((v5 >>> (8 &&& 31)) &&& 255)) 19 ((v5 >>> (0 &&& 31)) &&& 255))))] := hD
  refine lv_icmp_eq (x := 20) (y := 20) (tgt := 2265) hx hb dL_law_280 (by decide) (fun c_7 => ?_) (fun c_7 => ?_)
  rotate_left
  · exact absurd (by decide) c_7
  exact law_end hst C0 hA C hS (lv_sub hl [0, 4] rfl) (Nat.le_of_ble_eq_true rfl) (Nat.le_of_ble_eq_true rfl)
set_option maxHeartbeats 4000000 in
set_option maxRecDepth 100000 in
theorem law_1 {p : Program} {e : Env} {s : State} {m : MethodId} {below : List Frame} {meth : Method} {c : Code} {l : Launch} (hst : l.stackTraces = false) {b : Nat} {xs : Nat → Int32} {G : kG} {A : Nat → Prop} (C0 : lw_At p s m meth c b 6 xs) (hA : A = fun q : Nat => s.heap.size ≤ q) (C : kC G p s m c cL_law 8 RL A) {v1 : Int32} (hv1 : xs 1 = v1) {v2 : Int32} (hv2 : xs 2 = v2) {v3 : Int32} (hv3 : xs 3 = v3) {v4 : Int32} (hv4 : xs 4 = v4) {v5 : Int32} (hv5 : xs 5 = v5) {x0 : Nat} {Fx0 : Nat → Value} {x3 : Nat} {x5 : Nat} {x7 : Nat} {x8 : Nat} {x31 : Nat} {x1 : Nat} {Fx5 : Nat → Value} {x6 : Nat} {Fx6 : Nat → Value} {Fx7 : Nat → Value} {Fx8 : Nat → Value} {Fx31 : Nat → Value} {m0 : Nat} {Fm0 : Nat → Value} {m1 : Nat} {m2 : Nat} {m3 : Nat} {m4 : Nat} {m5 : Nat} {m6 : Nat} {m7 : Nat} {m8 : Nat} {m9 : Nat} {m10 : Nat} {m11 : Nat} {m12 : Nat} {m15 : Nat} {m16 : Nat} {m17 : Nat} {m18 : Nat} {m19 : Nat} {m20 : Nat} {m21 : Nat} {m22 : Nat} {m23 : Nat} {m24 : Nat} {m25 : Nat} {m26 : Nat} {aout : Nat} (e_x0_3 : Fx0 3 = .ref x3) (e_x0_4 : Fx0 4 = .ref x5) (e_x0_5 : Fx0 5 = .ref x7) (e_x0_6 : Fx0 6 = .ref x8) (e_x0_8 : Fx0 8 = .ref x31) (e_x0_13 : Fx0 13 = .int 0) (e_x5_1 : Fx5 1 = .ref x6) (e_x7_0 : Fx7 0 = .ref x1) (e_m0_5 : Fm0 5 = .ref m1) (e_m0_6 : Fm0 6 = .ref m2) (e_m0_7 : Fm0 7 = .ref m3) (e_m0_8 : Fm0 8 = .ref m4) (e_m0_9 : Fm0 9 = .ref m5) (e_m0_10 : Fm0 10 = .ref m6) (e_m0_11 : Fm0 11 = .ref m7) (e_m0_12 : Fm0 12 = .ref m8) (e_m0_13 : Fm0 13 = .ref m9) (e_m0_14 : Fm0 14 = .ref m10) (e_m0_15 : Fm0 15 = .ref m11) (e_m0_16 : Fm0 16 = .ref m12) (e_m0_18 : Fm0 18 = .int 0) (e_m0_38 : Fm0 38 = .ref m15) (e_m0_39 : Fm0 39 = .ref m16) (e_m0_40 : Fm0 40 = .ref m17) (e_m0_41 : Fm0 41 = .ref m18) (e_m0_42 : Fm0 42 = .ref m19) (e_m0_43 : Fm0 43 = .ref m20) (e_m0_44 : Fm0 44 = .ref m21) (e_m0_45 : Fm0 45 = .ref m22) (e_m0_46 : Fm0 46 = .ref m23) (e_m0_47 : Fm0 47 = .ref m24) (e_m0_48 : Fm0 48 = .ref m25) (e_m0_49 : Fm0 49 = .ref m26) {H : Heap} {locs : List Loc} {ls : Array Slot} (hP : va_P G.1 vwCl [(x0, .inr (11, ofL 17 Fx0)), (x1, .inl (G.2.1, 700, .inl (fun _ => 0))), (x5, .inr (7, ofL 5 Fx5)), (x6, .inr (8, ofL 5 Fx6)), (x7, .inr (6, ofL 11 Fx7)), (x8, .inr (3, ofL 12 Fx8)), (x31, .inr (1, ofL 10 Fx31)), (m0, .inr (12, ofL 88 Fm0)), (m1, .inl (G.2.1, 12, .inl (fun _ => 0))), (m2, .inl (G.2.1, 12, .inl (fun _ => 0))), (m3, .inl (G.2.1, 12, .inl (fun _ => 0))), (m4, .inl (G.2.1, 12, .inl (fun _ => 0))), (m5, .inl (G.2.1, 12, .inl (fun _ => 0))), (m6, .inl (G.2.1, 12, .inl (fun _ => 0))), (m7, .inl (G.2.1, 12, .inl (fun _ => 0))), (m8, .inl (G.2.1, 12, .inl (fun _ => 0))), (m9, .inl (G.2.1, 72, .inl (fun _ => 0))), (m10, .inl (G.2.1, 4, .inl (fun _ => 0))), (m11, .inl (G.2.1, 1900, .inl (fun _ => 0))), (m12, .inl (G.2.1, 48, .inl (fun _ => 0))), (m15, .inl (G.2.1, 12, .inl (fun _ => 0))), (m16, .inl (G.2.1, 12, .inl (fun _ => 0))), (m17, .inl (G.2.1, 12, .inl (fun _ => 0))), (m18, .inl (G.2.1, 12, .inl (fun _ => 0))), (m19, .inl (G.2.1, 12, .inl (fun _ => 0))), (m20, .inl (G.2.1, 12, .inl (fun _ => 0))), (m21, .inl (G.2.1, 12, .inl (fun _ => 0))), (m22, .inl (G.2.1, 12, .inl (fun _ => 0))), (m23, .inl (G.2.1, 72, .inl (fun _ => 0))), (m24, .inl (G.2.1, 48, .inl (fun _ => 0))), (m25, .inl (G.2.1, 4, .inl (fun _ => 0))), (m26, .inl (G.2.1, 1900, .inl (fun _ => 0))), (aout, .inl (G.2.2.2.2, 1, .inr (.inl (fun _ => 0))))] H) (hD : va_D A [(x0, .inr (11, ofL 17 Fx0)), (x1, .inl (G.2.1, 700, .inl (fun _ => 0))), (x5, .inr (7, ofL 5 Fx5)), (x6, .inr (8, ofL 5 Fx6)), (x7, .inr (6, ofL 11 Fx7)), (x8, .inr (3, ofL 12 Fx8)), (x31, .inr (1, ofL 10 Fx31)), (m0, .inr (12, ofL 88 Fm0)), (m1, .inl (G.2.1, 12, .inl (fun _ => 0))), (m2, .inl (G.2.1, 12, .inl (fun _ => 0))), (m3, .inl (G.2.1, 12, .inl (fun _ => 0))), (m4, .inl (G.2.1, 12, .inl (fun _ => 0))), (m5, .inl (G.2.1, 12, .inl (fun _ => 0))), (m6, .inl (G.2.1, 12, .inl (fun _ => 0))), (m7, .inl (G.2.1, 12, .inl (fun _ => 0))), (m8, .inl (G.2.1, 12, .inl (fun _ => 0))), (m9, .inl (G.2.1, 72, .inl (fun _ => 0))), (m10, .inl (G.2.1, 4, .inl (fun _ => 0))), (m11, .inl (G.2.1, 1900, .inl (fun _ => 0))), (m12, .inl (G.2.1, 48, .inl (fun _ => 0))), (m15, .inl (G.2.1, 12, .inl (fun _ => 0))), (m16, .inl (G.2.1, 12, .inl (fun _ => 0))), (m17, .inl (G.2.1, 12, .inl (fun _ => 0))), (m18, .inl (G.2.1, 12, .inl (fun _ => 0))), (m19, .inl (G.2.1, 12, .inl (fun _ => 0))), (m20, .inl (G.2.1, 12, .inl (fun _ => 0))), (m21, .inl (G.2.1, 12, .inl (fun _ => 0))), (m22, .inl (G.2.1, 12, .inl (fun _ => 0))), (m23, .inl (G.2.1, 72, .inl (fun _ => 0))), (m24, .inl (G.2.1, 48, .inl (fun _ => 0))), (m25, .inl (G.2.1, 4, .inl (fun _ => 0))), (m26, .inl (G.2.1, 1900, .inl (fun _ => 0))), (aout, .inl (G.2.2.2.2, 1, .inr (.inl (fun _ => 0))))]) (hS : va_S A s.heap H locs) (hl : lv_has ls 8 [(0, .ref b), (1, .ref x0), (2, .ref m0), (3, .ref aout), (4, .int 0)]) :
    W p l e room_1 s m #[Value.ref b] below meth c H locs 1000 20000 (lw_Z below #[Value.ref b] s) (F0 m 285 ls []) := by
  obtain ⟨hx, hb, hr, -, -, -, hX, hbl, hlocks, -⟩ := id C0
  have hbA : ¬ A b := by rw [hA]; exact Nat.not_le.mpr hbl
  refine lv_aload_n hx hb dL_law_285 rfl (lv_at hl 1 rfl) ?_
  refine lv_aload_n hx hb dL_law_286 rfl (lv_at hl 0 rfl) ?_
  refine lv_iload hx hb dL_law_287 (lv_at hl 4 rfl) ?_
  refine lv_iconst (v := 1) hx hb dL_law_289 (by decide) ?_
  refine lv_iadd hx hb dL_law_290 ?_
  refine k_eqi (y := 1) (by decide) ?_
  refine va_sld hx hb hX hbl hbA hS (k_in (by decide)) dL_law_291 ?_
  refine k_eqi (y := v1) hv1 ?_
  refine lv_aload_n hx hb dL_law_292 rfl (lv_at hl 3 rfl) ?_
  refine k_callHi (wr := [(m0, .inr (12, ofL 88 Fm0)), (m1, .inl (G.2.1, 12, .inl (fun _ => 0))), (m2, .inl (G.2.1, 12, .inl (fun _ => 0))), (m3, .inl (G.2.1, 12, .inl (fun _ => 0))), (m4, .inl (G.2.1, 12, .inl (fun _ => 0))), (m5, .inl (G.2.1, 12, .inl (fun _ => 0))), (m6, .inl (G.2.1, 12, .inl (fun _ => 0))), (m7, .inl (G.2.1, 12, .inl (fun _ => 0))), (m8, .inl (G.2.1, 12, .inl (fun _ => 0))), (m9, .inl (G.2.1, 72, .inl (fun _ => 0))), (m10, .inl (G.2.1, 4, .inl (fun _ => 0))), (m11, .inl (G.2.1, 1900, .inl (fun _ => 0))), (m12, .inl (G.2.1, 48, .inl (fun _ => 0))), (m15, .inl (G.2.1, 12, .inl (fun _ => 0))), (m16, .inl (G.2.1, 12, .inl (fun _ => 0))), (m17, .inl (G.2.1, 12, .inl (fun _ => 0))), (m18, .inl (G.2.1, 12, .inl (fun _ => 0))), (m19, .inl (G.2.1, 12, .inl (fun _ => 0))), (m20, .inl (G.2.1, 12, .inl (fun _ => 0))), (m21, .inl (G.2.1, 12, .inl (fun _ => 0))), (m22, .inl (G.2.1, 12, .inl (fun _ => 0))), (m23, .inl (G.2.1, 72, .inl (fun _ => 0))), (m24, .inl (G.2.1, 48, .inl (fun _ => 0))), (m25, .inl (G.2.1, 4, .inl (fun _ => 0))), (m26, .inl (G.2.1, 1900, .inl (fun _ => 0)))]) (rest := []) li_L_112 C (c_L_house l hst G H.size x0 v1 aout Fx0 x3 x5 x7 x8 x31 Fx5 x6 Fx6 Fx7 x1 (fun _ => 0) Fx8 Fx31 (fun _ => 0) e_x0_3 e_x0_4 e_x0_5 e_x0_6 e_x0_8 e_x0_13 e_x5_1 e_x7_0) (kR rfl) hP hD hS [0, 2, 3, 4, 1, 5, 6, 32] [7, 8, 9, 10, 11, 12, 13, 14, 15, 16, 17, 18, 19, 20, 21, 22, 23, 24, 25, 26, 27, 28, 29, 30, 31] rfl rfl rfl rfl (by decide) rfl hl.1 rfl (Nat.le_of_ble_eq_true rfl) dL_law_293 (fun rr2 uu3 H locs hw1 hP hD hS => ?_)
  rcases hw1 with ⟨rfl, rfl, c_4⟩ | ⟨rfl, rfl, c_5, c_6⟩ | ⟨rfl, rfl, c_7, c_8, rfl⟩
  ·
    have hP : va_P G.1 vwCl [(m0, .inr (12, ofL 88 Fm0)), (m1, .inl (G.2.1, 12, .inl (fun _ => 0))), (m2, .inl (G.2.1, 12, .inl (fun _ => 0))), (m3, .inl (G.2.1, 12, .inl (fun _ => 0))), (m4, .inl (G.2.1, 12, .inl (fun _ => 0))), (m5, .inl (G.2.1, 12, .inl (fun _ => 0))), (m6, .inl (G.2.1, 12, .inl (fun _ => 0))), (m7, .inl (G.2.1, 12, .inl (fun _ => 0))), (m8, .inl (G.2.1, 12, .inl (fun _ => 0))), (m9, .inl (G.2.1, 72, .inl (fun _ => 0))), (m10, .inl (G.2.1, 4, .inl (fun _ => 0))), (m11, .inl (G.2.1, 1900, .inl (fun _ => 0))), (m12, .inl (G.2.1, 48, .inl (fun _ => 0))), (m15, .inl (G.2.1, 12, .inl (fun _ => 0))), (m16, .inl (G.2.1, 12, .inl (fun _ => 0))), (m17, .inl (G.2.1, 12, .inl (fun _ => 0))), (m18, .inl (G.2.1, 12, .inl (fun _ => 0))), (m19, .inl (G.2.1, 12, .inl (fun _ => 0))), (m20, .inl (G.2.1, 12, .inl (fun _ => 0))), (m21, .inl (G.2.1, 12, .inl (fun _ => 0))), (m22, .inl (G.2.1, 12, .inl (fun _ => 0))), (m23, .inl (G.2.1, 72, .inl (fun _ => 0))), (m24, .inl (G.2.1, 48, .inl (fun _ => 0))), (m25, .inl (G.2.1, 4, .inl (fun _ => 0))), (m26, .inl (G.2.1, 1900, .inl (fun _ => 0))), (aout, .inl (G.2.2.2.2, 1, .inr (.inl ((fun _ => 0))))), (x0, .inr (11, ofL 17 Fx0)), (x5, .inr (7, ofL 5 Fx5)), (x6, .inr (8, ofL 5 Fx6)), (x7, .inr (6, ofL 11 Fx7)), (x1, .inl (G.2.1, 700, .inl ((fun _ => 0)))), (x8, .inr (3, ofL 12 Fx8)), (x31, .inr (1, ofL 10 Fx31))] H := hP
    have hD : va_D A [(m0, .inr (12, ofL 88 Fm0)), (m1, .inl (G.2.1, 12, .inl (fun _ => 0))), (m2, .inl (G.2.1, 12, .inl (fun _ => 0))), (m3, .inl (G.2.1, 12, .inl (fun _ => 0))), (m4, .inl (G.2.1, 12, .inl (fun _ => 0))), (m5, .inl (G.2.1, 12, .inl (fun _ => 0))), (m6, .inl (G.2.1, 12, .inl (fun _ => 0))), (m7, .inl (G.2.1, 12, .inl (fun _ => 0))), (m8, .inl (G.2.1, 12, .inl (fun _ => 0))), (m9, .inl (G.2.1, 72, .inl (fun _ => 0))), (m10, .inl (G.2.1, 4, .inl (fun _ => 0))), (m11, .inl (G.2.1, 1900, .inl (fun _ => 0))), (m12, .inl (G.2.1, 48, .inl (fun _ => 0))), (m15, .inl (G.2.1, 12, .inl (fun _ => 0))), (m16, .inl (G.2.1, 12, .inl (fun _ => 0))), (m17, .inl (G.2.1, 12, .inl (fun _ => 0))), (m18, .inl (G.2.1, 12, .inl (fun _ => 0))), (m19, .inl (G.2.1, 12, .inl (fun _ => 0))), (m20, .inl (G.2.1, 12, .inl (fun _ => 0))), (m21, .inl (G.2.1, 12, .inl (fun _ => 0))), (m22, .inl (G.2.1, 12, .inl (fun _ => 0))), (m23, .inl (G.2.1, 72, .inl (fun _ => 0))), (m24, .inl (G.2.1, 48, .inl (fun _ => 0))), (m25, .inl (G.2.1, 4, .inl (fun _ => 0))), (m26, .inl (G.2.1, 1900, .inl (fun _ => 0))), (aout, .inl (G.2.2.2.2, 1, .inr (.inl ((fun _ => 0))))), (x0, .inr (11, ofL 17 Fx0)), (x5, .inr (7, ofL 5 Fx5)), (x6, .inr (8, ofL 5 Fx6)), (x7, .inr (6, ofL 11 Fx7)), (x1, .inl (G.2.1, 700, .inl ((fun _ => 0)))), (x8, .inr (3, ofL 12 Fx8)), (x31, .inr (1, ofL 10 Fx31))] := hD
    refine lv_istore (lv' := [(5, .int 1), (0, .ref b), (1, .ref x0), (2, .ref m0), (3, .ref aout), (4, .int 0)]) hx hb dL_law_296 hl (by decide) rfl (fun ls hl => ?_)
    refine lv_aload_n hx hb dL_law_298 rfl (lv_at hl 3 rfl) ?_
    refine lv_aload_n hx hb dL_law_299 rfl (lv_at hl 1 rfl) ?_
    refine lv_iload hx hb dL_law_300 (lv_at hl 5 rfl) ?_
    refine lv_iconst (v := 1) hx hb dL_law_302 (by decide) ?_
    refine lv_iadd hx hb dL_law_303 ?_
    refine k_eqi (y := 1) (by decide) ?_
    refine va_sld hx hb hX hbl hbA hS (k_in (by decide)) dL_law_304 ?_
    refine k_eqi (y := v1) hv1 ?_
    refine k_callVi (wr := [(aout, .inl (G.2.2.2.2, 1, .inr (.inl ((fun _ => 0))))), (x0, .inr (11, ofL 17 Fx0)), (x5, .inr (7, ofL 5 Fx5)), (x6, .inr (8, ofL 5 Fx6)), (x7, .inr (6, ofL 11 Fx7)), (x1, .inl (G.2.1, 700, .inl ((fun _ => 0)))), (x8, .inr (3, ofL 12 Fx8)), (x31, .inr (1, ofL 10 Fx31))]) (rest := []) li_L_117 C (c_X12_house l G H.size m0 v1 Fm0 m1 m2 m3 m4 m5 m6 m7 m8 m9 m10 m11 m12 m15 m16 m17 m18 m19 m20 m21 m22 m23 m24 m25 m26 (fun _ => 0) (fun _ => 0) (fun _ => 0) (fun _ => 0) (fun _ => 0) (fun _ => 0) (fun _ => 0) (fun _ => 0) (fun _ => 0) (fun _ => 0) (fun _ => 0) (fun _ => 0) (fun _ => 0) (fun _ => 0) (fun _ => 0) (fun _ => 0) (fun _ => 0) (fun _ => 0) (fun _ => 0) (fun _ => 0) (fun _ => 0) (fun _ => 0) (fun _ => 0) (fun _ => 0) e_m0_38 e_m0_5 e_m0_39 e_m0_6 e_m0_40 e_m0_7 e_m0_41 e_m0_8 e_m0_42 e_m0_9 e_m0_43 e_m0_10 e_m0_44 e_m0_11 e_m0_45 e_m0_12 e_m0_46 e_m0_13 e_m0_47 e_m0_16 e_m0_48 e_m0_14 e_m0_49 e_m0_15 e_m0_18) (kR rfl) hP hD hS [0, 13, 1, 14, 2, 15, 3, 16, 4, 17, 5, 18, 6, 19, 7, 20, 8, 21, 9, 22, 12, 23, 10, 24, 11] [25, 26, 27, 28, 29, 30, 31, 32] rfl rfl rfl rfl (by decide) 0 12 rfl rfl rfl hl.1 rfl (Nat.le_of_ble_eq_true rfl) dL_law_305 (fun rr10 uu11 H locs hw9 hP hD hS => ?_)
    rcases hw9 with ⟨rfl, rfl, c_12⟩ | ⟨rfl, rfl, c_13, c_14⟩ | ⟨rfl, rfl, c_15, c_16, rfl⟩
    ·
      have hP : va_P G.1 vwCl [(aout, .inl (G.2.2.2.2, 1, .inr (.inl ((fun _ => 0))))), (x0, .inr (11, ofL 17 Fx0)), (x5, .inr (7, ofL 5 Fx5)), (x6, .inr (8, ofL 5 Fx6)), (x7, .inr (6, ofL 11 Fx7)), (x1, .inl (G.2.1, 700, .inl ((fun _ => 0)))), (x8, .inr (3, ofL 12 Fx8)), (x31, .inr (1, ofL 10 Fx31)), (m0, .inr (12, ofL 88 (updV (updV Fm0 0 (.int 0)) 0 (.int 1))))] H := hP
      have hD : va_D A [(aout, .inl (G.2.2.2.2, 1, .inr (.inl ((fun _ => 0))))), (x0, .inr (11, ofL 17 Fx0)), (x5, .inr (7, ofL 5 Fx5)), (x6, .inr (8, ofL 5 Fx6)), (x7, .inr (6, ofL 11 Fx7)), (x1, .inl (G.2.1, 700, .inl ((fun _ => 0)))), (x8, .inr (3, ofL 12 Fx8)), (x31, .inr (1, ofL 10 Fx31)), (m0, .inr (12, ofL 88 (updV (updV Fm0 0 (.int 0)) 0 (.int 1))))] := hD
      refine lv_istore (lv' := [(6, .int 0), (5, .int 1), (0, .ref b), (1, .ref x0), (2, .ref m0), (3, .ref aout), (4, .int 0)]) hx hb dL_law_308 hl (by decide) rfl (fun ls hl => ?_)
      refine lv_aload_n hx hb dL_law_310 rfl (lv_at hl 4 rfl) ?_
      refine k_callVi (wr := [(aout, .inl (G.2.2.2.2, 1, .inr (.inl ((fun _ => 0))))), (x0, .inr (11, ofL 17 Fx0)), (x5, .inr (7, ofL 5 Fx5)), (x6, .inr (8, ofL 5 Fx6)), (x7, .inr (6, ofL 11 Fx7)), (x1, .inl (G.2.1, 700, .inl ((fun _ => 0)))), (x8, .inr (3, ofL 12 Fx8)), (x31, .inr (1, ofL 10 Fx31))]) (rest := []) li_L_118 C (c_X12_thrown l G H.size m0 (updV (updV Fm0 0 (.int 0)) 0 (.int 1)) 1 rfl) (kR rfl) hP hD hS [8] [0, 1, 2, 3, 4, 5, 6, 7] rfl rfl rfl rfl (by decide) 0 12 rfl rfl rfl hl.1 rfl (Nat.le_of_ble_eq_true rfl) dL_law_311 (fun rr18 uu19 H locs hw17 hP hD hS => ?_)
      obtain rfl : rr18 = 1 := hw17
      have hP : va_P G.1 vwCl [(aout, .inl (G.2.2.2.2, 1, .inr (.inl ((fun _ => 0))))), (x0, .inr (11, ofL 17 Fx0)), (x5, .inr (7, ofL 5 Fx5)), (x6, .inr (8, ofL 5 Fx6)), (x7, .inr (6, ofL 11 Fx7)), (x1, .inl (G.2.1, 700, .inl ((fun _ => 0)))), (x8, .inr (3, ofL 12 Fx8)), (x31, .inr (1, ofL 10 Fx31)), (m0, .inr (12, ofL 88 (updV (updV Fm0 0 (.int 0)) 0 (.int 1))))] H := hP
      have hD : va_D A [(aout, .inl (G.2.2.2.2, 1, .inr (.inl ((fun _ => 0))))), (x0, .inr (11, ofL 17 Fx0)), (x5, .inr (7, ofL 5 Fx5)), (x6, .inr (8, ofL 5 Fx6)), (x7, .inr (6, ofL 11 Fx7)), (x1, .inl (G.2.1, 700, .inl ((fun _ => 0)))), (x8, .inr (3, ofL 12 Fx8)), (x31, .inr (1, ofL 10 Fx31)), (m0, .inr (12, ofL 88 (updV (updV Fm0 0 (.int 0)) 0 (.int 1))))] := hD
      refine lv_iload hx hb dL_law_314 (lv_at hl 1 rfl) ?_
      refine lv_icmp_eq (x := 1) (y := 1) (tgt := 321) hx hb dL_law_316 (by decide) (fun c_20 => ?_) (fun c_20 => ?_)
      rotate_left
      · exact absurd (by decide) c_20
      refine lv_iload hx hb dL_law_321 (lv_at hl 1 rfl) ?_
      refine lv_if_ne (x := 1) (tgt := 338) hx hb dL_law_323 (by decide) (fun c_21 => ?_) (fun c_21 => ?_)
      rotate_left
      · exact absurd c_21 (by decide)
      refine lv_goto (tgt := 2265) hx hb dL_law_338 (by decide) ?_
      exact law_end hst C0 hA C hS (lv_sub hl [2, 6] rfl) (Nat.le_of_ble_eq_true rfl) (Nat.le_of_ble_eq_true rfl)
    ·
      have hP : va_P G.1 vwCl [(aout, .inl (G.2.2.2.2, 1, .inr (.inl ((fun _ => 0))))), (x0, .inr (11, ofL 17 Fx0)), (x5, .inr (7, ofL 5 Fx5)), (x6, .inr (8, ofL 5 Fx6)), (x7, .inr (6, ofL 11 Fx7)), (x1, .inl (G.2.1, 700, .inl ((fun _ => 0)))), (x8, .inr (3, ofL 12 Fx8)), (x31, .inr (1, ofL 10 Fx31)), (m0, .inr (12, ofL 88 (updV (updV Fm0 0 (.int 0)) 0 (.int 1))))] H := hP
      have hD : va_D A [(aout, .inl (G.2.2.2.2, 1, .inr (.inl ((fun _ => 0))))), (x0, .inr (11, ofL 17 Fx0)), (x5, .inr (7, ofL 5 Fx5)), (x6, .inr (8, ofL 5 Fx6)), (x7, .inr (6, ofL 11 Fx7)), (x1, .inl (G.2.1, 700, .inl ((fun _ => 0)))), (x8, .inr (3, ofL 12 Fx8)), (x31, .inr (1, ofL 10 Fx31)), (m0, .inr (12, ofL 88 (updV (updV Fm0 0 (.int 0)) 0 (.int 1))))] := hD
      refine lv_istore (lv' := [(6, .int 0), (5, .int 1), (0, .ref b), (1, .ref x0), (2, .ref m0), (3, .ref aout), (4, .int 0)]) hx hb dL_law_308 hl (by decide) rfl (fun ls hl => ?_)
      refine lv_aload_n hx hb dL_law_310 rfl (lv_at hl 4 rfl) ?_
      refine k_callVi (wr := [(aout, .inl (G.2.2.2.2, 1, .inr (.inl ((fun _ => 0))))), (x0, .inr (11, ofL 17 Fx0)), (x5, .inr (7, ofL 5 Fx5)), (x6, .inr (8, ofL 5 Fx6)), (x7, .inr (6, ofL 11 Fx7)), (x1, .inl (G.2.1, 700, .inl ((fun _ => 0)))), (x8, .inr (3, ofL 12 Fx8)), (x31, .inr (1, ofL 10 Fx31))]) (rest := []) li_L_118 C (c_X12_thrown l G H.size m0 (updV (updV Fm0 0 (.int 0)) 0 (.int 1)) 1 rfl) (kR rfl) hP hD hS [8] [0, 1, 2, 3, 4, 5, 6, 7] rfl rfl rfl rfl (by decide) 0 12 rfl rfl rfl hl.1 rfl (Nat.le_of_ble_eq_true rfl) dL_law_311 (fun rr23 uu24 H locs hw22 hP hD hS => ?_)
      obtain rfl : rr23 = 1 := hw22
      have hP : va_P G.1 vwCl [(aout, .inl (G.2.2.2.2, 1, .inr (.inl ((fun _ => 0))))), (x0, .inr (11, ofL 17 Fx0)), (x5, .inr (7, ofL 5 Fx5)), (x6, .inr (8, ofL 5 Fx6)), (x7, .inr (6, ofL 11 Fx7)), (x1, .inl (G.2.1, 700, .inl ((fun _ => 0)))), (x8, .inr (3, ofL 12 Fx8)), (x31, .inr (1, ofL 10 Fx31)), (m0, .inr (12, ofL 88 (updV (updV Fm0 0 (.int 0)) 0 (.int 1))))] H := hP
      have hD : va_D A [(aout, .inl (G.2.2.2.2, 1, .inr (.inl ((fun _ => 0))))), (x0, .inr (11, ofL 17 Fx0)), (x5, .inr (7, ofL 5 Fx5)), (x6, .inr (8, ofL 5 Fx6)), (x7, .inr (6, ofL 11 Fx7)), (x1, .inl (G.2.1, 700, .inl ((fun _ => 0)))), (x8, .inr (3, ofL 12 Fx8)), (x31, .inr (1, ofL 10 Fx31)), (m0, .inr (12, ofL 88 (updV (updV Fm0 0 (.int 0)) 0 (.int 1))))] := hD
      refine lv_iload hx hb dL_law_314 (lv_at hl 1 rfl) ?_
      refine lv_icmp_eq (x := 1) (y := 1) (tgt := 321) hx hb dL_law_316 (by decide) (fun c_25 => ?_) (fun c_25 => ?_)
      rotate_left
      · exact absurd (by decide) c_25
      refine lv_iload hx hb dL_law_321 (lv_at hl 1 rfl) ?_
      refine lv_if_ne (x := 1) (tgt := 338) hx hb dL_law_323 (by decide) (fun c_26 => ?_) (fun c_26 => ?_)
      rotate_left
      · exact absurd c_26 (by decide)
      refine lv_goto (tgt := 2265) hx hb dL_law_338 (by decide) ?_
      exact law_end hst C0 hA C hS (lv_sub hl [2, 6] rfl) (Nat.le_of_ble_eq_true rfl) (Nat.le_of_ble_eq_true rfl)
    ·
      exact absurd c_4 (by decide)
  ·
    have hP : va_P G.1 vwCl [(m0, .inr (12, ofL 88 Fm0)), (m1, .inl (G.2.1, 12, .inl (fun _ => 0))), (m2, .inl (G.2.1, 12, .inl (fun _ => 0))), (m3, .inl (G.2.1, 12, .inl (fun _ => 0))), (m4, .inl (G.2.1, 12, .inl (fun _ => 0))), (m5, .inl (G.2.1, 12, .inl (fun _ => 0))), (m6, .inl (G.2.1, 12, .inl (fun _ => 0))), (m7, .inl (G.2.1, 12, .inl (fun _ => 0))), (m8, .inl (G.2.1, 12, .inl (fun _ => 0))), (m9, .inl (G.2.1, 72, .inl (fun _ => 0))), (m10, .inl (G.2.1, 4, .inl (fun _ => 0))), (m11, .inl (G.2.1, 1900, .inl (fun _ => 0))), (m12, .inl (G.2.1, 48, .inl (fun _ => 0))), (m15, .inl (G.2.1, 12, .inl (fun _ => 0))), (m16, .inl (G.2.1, 12, .inl (fun _ => 0))), (m17, .inl (G.2.1, 12, .inl (fun _ => 0))), (m18, .inl (G.2.1, 12, .inl (fun _ => 0))), (m19, .inl (G.2.1, 12, .inl (fun _ => 0))), (m20, .inl (G.2.1, 12, .inl (fun _ => 0))), (m21, .inl (G.2.1, 12, .inl (fun _ => 0))), (m22, .inl (G.2.1, 12, .inl (fun _ => 0))), (m23, .inl (G.2.1, 72, .inl (fun _ => 0))), (m24, .inl (G.2.1, 48, .inl (fun _ => 0))), (m25, .inl (G.2.1, 4, .inl (fun _ => 0))), (m26, .inl (G.2.1, 1900, .inl (fun _ => 0))), (aout, .inl (G.2.2.2.2, 1, .inr (.inl ((fun _ => 0))))), (x0, .inr (11, ofL 17 Fx0)), (x5, .inr (7, ofL 5 Fx5)), (x6, .inr (8, ofL 5 Fx6)), (x7, .inr (6, ofL 11 Fx7)), (x1, .inl (G.2.1, 700, .inl ((fun _ => 0)))), (x8, .inr (3, ofL 12 Fx8)), (x31, .inr (1, ofL 10 Fx31))] H := hP
    have hD : va_D A [(m0, .inr (12, ofL 88 Fm0)), (m1, .inl (G.2.1, 12, .inl (fun _ => 0))), (m2, .inl (G.2.1, 12, .inl (fun _ => 0))), (m3, .inl (G.2.1, 12, .inl (fun _ => 0))), (m4, .inl (G.2.1, 12, .inl (fun _ => 0))), (m5, .inl (G.2.1, 12, .inl (fun _ => 0))), (m6, .inl (G.2.1, 12, .inl (fun _ => 0))), (m7, .inl (G.2.1, 12, .inl (fun _ => 0))), (m8, .inl (G.2.1, 12, .inl (fun _ => 0))), (m9, .inl (G.2.1, 72, .inl (fun _ => 0))), (m10, .inl (G.2.1, 4, .inl (fun _ => 0))), (m11, .inl (G.2.1, 1900, .inl (fun _ => 0))), (m12, .inl (G.2.1, 48, .inl (fun _ => 0))), (m15, .inl (G.2.1, 12, .inl (fun _ => 0))), (m16, .inl (G.2.1, 12, .inl (fun _ => 0))), (m17, .inl (G.2.1, 12, .inl (fun _ => 0))), (m18, .inl (G.2.1, 12, .inl (fun _ => 0))), (m19, .inl (G.2.1, 12, .inl (fun _ => 0))), (m20, .inl (G.2.1, 12, .inl (fun _ => 0))), (m21, .inl (G.2.1, 12, .inl (fun _ => 0))), (m22, .inl (G.2.1, 12, .inl (fun _ => 0))), (m23, .inl (G.2.1, 72, .inl (fun _ => 0))), (m24, .inl (G.2.1, 48, .inl (fun _ => 0))), (m25, .inl (G.2.1, 4, .inl (fun _ => 0))), (m26, .inl (G.2.1, 1900, .inl (fun _ => 0))), (aout, .inl (G.2.2.2.2, 1, .inr (.inl ((fun _ => 0))))), (x0, .inr (11, ofL 17 Fx0)), (x5, .inr (7, ofL 5 Fx5)), (x6, .inr (8, ofL 5 Fx6)), (x7, .inr (6, ofL 11 Fx7)), (x1, .inl (G.2.1, 700, .inl ((fun _ => 0)))), (x8, .inr (3, ofL 12 Fx8)), (x31, .inr (1, ofL 10 Fx31))] := hD
    refine lv_istore (lv' := [(5, .int 1), (0, .ref b), (1, .ref x0), (2, .ref m0), (3, .ref aout), (4, .int 0)]) hx hb dL_law_296 hl (by decide) rfl (fun ls hl => ?_)
    refine lv_aload_n hx hb dL_law_298 rfl (lv_at hl 3 rfl) ?_
    refine lv_aload_n hx hb dL_law_299 rfl (lv_at hl 1 rfl) ?_
    refine lv_iload hx hb dL_law_300 (lv_at hl 5 rfl) ?_
    refine lv_iconst (v := 1) hx hb dL_law_302 (by decide) ?_
    refine lv_iadd hx hb dL_law_303 ?_
    refine k_eqi (y := 1) (by decide) ?_
    refine va_sld hx hb hX hbl hbA hS (k_in (by decide)) dL_law_304 ?_
    refine k_eqi (y := v1) hv1 ?_
    refine k_callVi (wr := [(aout, .inl (G.2.2.2.2, 1, .inr (.inl ((fun _ => 0))))), (x0, .inr (11, ofL 17 Fx0)), (x5, .inr (7, ofL 5 Fx5)), (x6, .inr (8, ofL 5 Fx6)), (x7, .inr (6, ofL 11 Fx7)), (x1, .inl (G.2.1, 700, .inl ((fun _ => 0)))), (x8, .inr (3, ofL 12 Fx8)), (x31, .inr (1, ofL 10 Fx31))]) (rest := []) li_L_117 C (c_X12_house l G H.size m0 v1 Fm0 m1 m2 m3 m4 m5 m6 m7 m8 m9 m10 m11 m12 m15 m16 m17 m18 m19 m20 m21 m22 m23 m24 m25 m26 (fun _ => 0) (fun _ => 0) (fun _ => 0) (fun _ => 0) (fun _ => 0) (fun _ => 0) (fun _ => 0) (fun _ => 0) (fun _ => 0) (fun _ => 0) (fun _ => 0) (fun _ => 0) (fun _ => 0) (fun _ => 0) (fun _ => 0) (fun _ => 0) (fun _ => 0) (fun _ => 0) (fun _ => 0) (fun _ => 0) (fun _ => 0) (fun _ => 0) (fun _ => 0) (fun _ => 0) e_m0_38 e_m0_5 e_m0_39 e_m0_6 e_m0_40 e_m0_7 e_m0_41 e_m0_8 e_m0_42 e_m0_9 e_m0_43 e_m0_10 e_m0_44 e_m0_11 e_m0_45 e_m0_12 e_m0_46 e_m0_13 e_m0_47 e_m0_16 e_m0_48 e_m0_14 e_m0_49 e_m0_15 e_m0_18) (kR rfl) hP hD hS [0, 13, 1, 14, 2, 15, 3, 16, 4, 17, 5, 18, 6, 19, 7, 20, 8, 21, 9, 22, 12, 23, 10, 24, 11] [25, 26, 27, 28, 29, 30, 31, 32] rfl rfl rfl rfl (by decide) 0 12 rfl rfl rfl hl.1 rfl (Nat.le_of_ble_eq_true rfl) dL_law_305 (fun rr28 uu29 H locs hw27 hP hD hS => ?_)
    rcases hw27 with ⟨rfl, rfl, c_30⟩ | ⟨rfl, rfl, c_31, c_32⟩ | ⟨rfl, rfl, c_33, c_34, rfl⟩
    ·
      have hP : va_P G.1 vwCl [(aout, .inl (G.2.2.2.2, 1, .inr (.inl ((fun _ => 0))))), (x0, .inr (11, ofL 17 Fx0)), (x5, .inr (7, ofL 5 Fx5)), (x6, .inr (8, ofL 5 Fx6)), (x7, .inr (6, ofL 11 Fx7)), (x1, .inl (G.2.1, 700, .inl ((fun _ => 0)))), (x8, .inr (3, ofL 12 Fx8)), (x31, .inr (1, ofL 10 Fx31)), (m0, .inr (12, ofL 88 (updV (updV Fm0 0 (.int 0)) 0 (.int 1))))] H := hP
      have hD : va_D A [(aout, .inl (G.2.2.2.2, 1, .inr (.inl ((fun _ => 0))))), (x0, .inr (11, ofL 17 Fx0)), (x5, .inr (7, ofL 5 Fx5)), (x6, .inr (8, ofL 5 Fx6)), (x7, .inr (6, ofL 11 Fx7)), (x1, .inl (G.2.1, 700, .inl ((fun _ => 0)))), (x8, .inr (3, ofL 12 Fx8)), (x31, .inr (1, ofL 10 Fx31)), (m0, .inr (12, ofL 88 (updV (updV Fm0 0 (.int 0)) 0 (.int 1))))] := hD
      refine lv_istore (lv' := [(6, .int 0), (5, .int 1), (0, .ref b), (1, .ref x0), (2, .ref m0), (3, .ref aout), (4, .int 0)]) hx hb dL_law_308 hl (by decide) rfl (fun ls hl => ?_)
      refine lv_aload_n hx hb dL_law_310 rfl (lv_at hl 4 rfl) ?_
      refine k_callVi (wr := [(aout, .inl (G.2.2.2.2, 1, .inr (.inl ((fun _ => 0))))), (x0, .inr (11, ofL 17 Fx0)), (x5, .inr (7, ofL 5 Fx5)), (x6, .inr (8, ofL 5 Fx6)), (x7, .inr (6, ofL 11 Fx7)), (x1, .inl (G.2.1, 700, .inl ((fun _ => 0)))), (x8, .inr (3, ofL 12 Fx8)), (x31, .inr (1, ofL 10 Fx31))]) (rest := []) li_L_118 C (c_X12_thrown l G H.size m0 (updV (updV Fm0 0 (.int 0)) 0 (.int 1)) 1 rfl) (kR rfl) hP hD hS [8] [0, 1, 2, 3, 4, 5, 6, 7] rfl rfl rfl rfl (by decide) 0 12 rfl rfl rfl hl.1 rfl (Nat.le_of_ble_eq_true rfl) dL_law_311 (fun rr36 uu37 H locs hw35 hP hD hS => ?_)
      obtain rfl : rr36 = 1 := hw35
      have hP : va_P G.1 vwCl [(aout, .inl (G.2.2.2.2, 1, .inr (.inl ((fun _ => 0))))), (x0, .inr (11, ofL 17 Fx0)), (x5, .inr (7, ofL 5 Fx5)), (x6, .inr (8, ofL 5 Fx6)), (x7, .inr (6, ofL 11 Fx7)), (x1, .inl (G.2.1, 700, .inl ((fun _ => 0)))), (x8, .inr (3, ofL 12 Fx8)), (x31, .inr (1, ofL 10 Fx31)), (m0, .inr (12, ofL 88 (updV (updV Fm0 0 (.int 0)) 0 (.int 1))))] H := hP
      have hD : va_D A [(aout, .inl (G.2.2.2.2, 1, .inr (.inl ((fun _ => 0))))), (x0, .inr (11, ofL 17 Fx0)), (x5, .inr (7, ofL 5 Fx5)), (x6, .inr (8, ofL 5 Fx6)), (x7, .inr (6, ofL 11 Fx7)), (x1, .inl (G.2.1, 700, .inl ((fun _ => 0)))), (x8, .inr (3, ofL 12 Fx8)), (x31, .inr (1, ofL 10 Fx31)), (m0, .inr (12, ofL 88 (updV (updV Fm0 0 (.int 0)) 0 (.int 1))))] := hD
      refine lv_iload hx hb dL_law_314 (lv_at hl 1 rfl) ?_
      refine lv_icmp_eq (x := 1) (y := 1) (tgt := 321) hx hb dL_law_316 (by decide) (fun c_38 => ?_) (fun c_38 => ?_)
      rotate_left
      · exact absurd (by decide) c_38
      refine lv_iload hx hb dL_law_321 (lv_at hl 1 rfl) ?_
      refine lv_if_ne (x := 1) (tgt := 338) hx hb dL_law_323 (by decide) (fun c_39 => ?_) (fun c_39 => ?_)
      rotate_left
      · exact absurd c_39 (by decide)
      refine lv_goto (tgt := 2265) hx hb dL_law_338 (by decide) ?_
      exact law_end hst C0 hA C hS (lv_sub hl [2, 6] rfl) (Nat.le_of_ble_eq_true rfl) (Nat.le_of_ble_eq_true rfl)
    ·
      have hP : va_P G.1 vwCl [(aout, .inl (G.2.2.2.2, 1, .inr (.inl ((fun _ => 0))))), (x0, .inr (11, ofL 17 Fx0)), (x5, .inr (7, ofL 5 Fx5)), (x6, .inr (8, ofL 5 Fx6)), (x7, .inr (6, ofL 11 Fx7)), (x1, .inl (G.2.1, 700, .inl ((fun _ => 0)))), (x8, .inr (3, ofL 12 Fx8)), (x31, .inr (1, ofL 10 Fx31)), (m0, .inr (12, ofL 88 (updV (updV Fm0 0 (.int 0)) 0 (.int 1))))] H := hP
      have hD : va_D A [(aout, .inl (G.2.2.2.2, 1, .inr (.inl ((fun _ => 0))))), (x0, .inr (11, ofL 17 Fx0)), (x5, .inr (7, ofL 5 Fx5)), (x6, .inr (8, ofL 5 Fx6)), (x7, .inr (6, ofL 11 Fx7)), (x1, .inl (G.2.1, 700, .inl ((fun _ => 0)))), (x8, .inr (3, ofL 12 Fx8)), (x31, .inr (1, ofL 10 Fx31)), (m0, .inr (12, ofL 88 (updV (updV Fm0 0 (.int 0)) 0 (.int 1))))] := hD
      refine lv_istore (lv' := [(6, .int 0), (5, .int 1), (0, .ref b), (1, .ref x0), (2, .ref m0), (3, .ref aout), (4, .int 0)]) hx hb dL_law_308 hl (by decide) rfl (fun ls hl => ?_)
      refine lv_aload_n hx hb dL_law_310 rfl (lv_at hl 4 rfl) ?_
      refine k_callVi (wr := [(aout, .inl (G.2.2.2.2, 1, .inr (.inl ((fun _ => 0))))), (x0, .inr (11, ofL 17 Fx0)), (x5, .inr (7, ofL 5 Fx5)), (x6, .inr (8, ofL 5 Fx6)), (x7, .inr (6, ofL 11 Fx7)), (x1, .inl (G.2.1, 700, .inl ((fun _ => 0)))), (x8, .inr (3, ofL 12 Fx8)), (x31, .inr (1, ofL 10 Fx31))]) (rest := []) li_L_118 C (c_X12_thrown l G H.size m0 (updV (updV Fm0 0 (.int 0)) 0 (.int 1)) 1 rfl) (kR rfl) hP hD hS [8] [0, 1, 2, 3, 4, 5, 6, 7] rfl rfl rfl rfl (by decide) 0 12 rfl rfl rfl hl.1 rfl (Nat.le_of_ble_eq_true rfl) dL_law_311 (fun rr41 uu42 H locs hw40 hP hD hS => ?_)
      obtain rfl : rr41 = 1 := hw40
      have hP : va_P G.1 vwCl [(aout, .inl (G.2.2.2.2, 1, .inr (.inl ((fun _ => 0))))), (x0, .inr (11, ofL 17 Fx0)), (x5, .inr (7, ofL 5 Fx5)), (x6, .inr (8, ofL 5 Fx6)), (x7, .inr (6, ofL 11 Fx7)), (x1, .inl (G.2.1, 700, .inl ((fun _ => 0)))), (x8, .inr (3, ofL 12 Fx8)), (x31, .inr (1, ofL 10 Fx31)), (m0, .inr (12, ofL 88 (updV (updV Fm0 0 (.int 0)) 0 (.int 1))))] H := hP
      have hD : va_D A [(aout, .inl (G.2.2.2.2, 1, .inr (.inl ((fun _ => 0))))), (x0, .inr (11, ofL 17 Fx0)), (x5, .inr (7, ofL 5 Fx5)), (x6, .inr (8, ofL 5 Fx6)), (x7, .inr (6, ofL 11 Fx7)), (x1, .inl (G.2.1, 700, .inl ((fun _ => 0)))), (x8, .inr (3, ofL 12 Fx8)), (x31, .inr (1, ofL 10 Fx31)), (m0, .inr (12, ofL 88 (updV (updV Fm0 0 (.int 0)) 0 (.int 1))))] := hD
      refine lv_iload hx hb dL_law_314 (lv_at hl 1 rfl) ?_
      refine lv_icmp_eq (x := 1) (y := 1) (tgt := 321) hx hb dL_law_316 (by decide) (fun c_43 => ?_) (fun c_43 => ?_)
      rotate_left
      · exact absurd (by decide) c_43
      refine lv_iload hx hb dL_law_321 (lv_at hl 1 rfl) ?_
      refine lv_if_ne (x := 1) (tgt := 338) hx hb dL_law_323 (by decide) (fun c_44 => ?_) (fun c_44 => ?_)
      rotate_left
      · exact absurd c_44 (by decide)
      refine lv_goto (tgt := 2265) hx hb dL_law_338 (by decide) ?_
      exact law_end hst C0 hA C hS (lv_sub hl [2, 6] rfl) (Nat.le_of_ble_eq_true rfl) (Nat.le_of_ble_eq_true rfl)
    ·
      exact absurd (by decide) c_6
  ·
    have hP : va_P G.1 vwCl [(m0, .inr (12, ofL 88 Fm0)), (m1, .inl (G.2.1, 12, .inl (fun _ => 0))), (m2, .inl (G.2.1, 12, .inl (fun _ => 0))), (m3, .inl (G.2.1, 12, .inl (fun _ => 0))), (m4, .inl (G.2.1, 12, .inl (fun _ => 0))), (m5, .inl (G.2.1, 12, .inl (fun _ => 0))), (m6, .inl (G.2.1, 12, .inl (fun _ => 0))), (m7, .inl (G.2.1, 12, .inl (fun _ => 0))), (m8, .inl (G.2.1, 12, .inl (fun _ => 0))), (m9, .inl (G.2.1, 72, .inl (fun _ => 0))), (m10, .inl (G.2.1, 4, .inl (fun _ => 0))), (m11, .inl (G.2.1, 1900, .inl (fun _ => 0))), (m12, .inl (G.2.1, 48, .inl (fun _ => 0))), (m15, .inl (G.2.1, 12, .inl (fun _ => 0))), (m16, .inl (G.2.1, 12, .inl (fun _ => 0))), (m17, .inl (G.2.1, 12, .inl (fun _ => 0))), (m18, .inl (G.2.1, 12, .inl (fun _ => 0))), (m19, .inl (G.2.1, 12, .inl (fun _ => 0))), (m20, .inl (G.2.1, 12, .inl (fun _ => 0))), (m21, .inl (G.2.1, 12, .inl (fun _ => 0))), (m22, .inl (G.2.1, 12, .inl (fun _ => 0))), (m23, .inl (G.2.1, 72, .inl (fun _ => 0))), (m24, .inl (G.2.1, 48, .inl (fun _ => 0))), (m25, .inl (G.2.1, 4, .inl (fun _ => 0))), (m26, .inl (G.2.1, 1900, .inl (fun _ => 0))), (aout, .inl (G.2.2.2.2, 1, .inr (.inl (vp_updL (fun _ => 0) 0 0)))), (x0, .inr (11, ofL 17 (updV (updV (updV (updV (updV (updV Fx0 13 (.int 0)) 14 (.int (-1))) 4 (.ref x3)) 3 (.ref x5)) 15 (.int 0)) 16 (.int 0)))), (x31, .inr (1, ofL 10 (updV Fx31 7 (.ref x5)))), (x1, .inl (G.2.1, 700, .inl ((fun _ => 0)))), (x6, .inr (8, ofL 5 (updV (updV Fx6 3 (.int 0)) 4 (.int 0)))), (x7, .inr (6, ofL 11 (updV (updV (updV (updV (updV (updV (updV (updV (updV (updV (updV Fx7 1 (.ref x5)) 2 (.int 0)) 3 (.int 0)) 7 (.int 0)) 8 (.int (-1))) 9 (.int 0)) 10 (.int 0)) 4 (.int 0)) 5 (.int 0)) 6 (.int 0)) 4 (.int 0)))), (x8, .inr (3, ofL 12 (updV (updV (updV Fx8 9 (.int 0)) 10 (.int 0)) 11 (.int (-1))))), (x5, .inr (7, ofL 5 (updV (updV (updV Fx5 2 (.int 0)) 3 (.int 1)) 4 (.int 99))))] H := hP
    have hD : va_D A [(m0, .inr (12, ofL 88 Fm0)), (m1, .inl (G.2.1, 12, .inl (fun _ => 0))), (m2, .inl (G.2.1, 12, .inl (fun _ => 0))), (m3, .inl (G.2.1, 12, .inl (fun _ => 0))), (m4, .inl (G.2.1, 12, .inl (fun _ => 0))), (m5, .inl (G.2.1, 12, .inl (fun _ => 0))), (m6, .inl (G.2.1, 12, .inl (fun _ => 0))), (m7, .inl (G.2.1, 12, .inl (fun _ => 0))), (m8, .inl (G.2.1, 12, .inl (fun _ => 0))), (m9, .inl (G.2.1, 72, .inl (fun _ => 0))), (m10, .inl (G.2.1, 4, .inl (fun _ => 0))), (m11, .inl (G.2.1, 1900, .inl (fun _ => 0))), (m12, .inl (G.2.1, 48, .inl (fun _ => 0))), (m15, .inl (G.2.1, 12, .inl (fun _ => 0))), (m16, .inl (G.2.1, 12, .inl (fun _ => 0))), (m17, .inl (G.2.1, 12, .inl (fun _ => 0))), (m18, .inl (G.2.1, 12, .inl (fun _ => 0))), (m19, .inl (G.2.1, 12, .inl (fun _ => 0))), (m20, .inl (G.2.1, 12, .inl (fun _ => 0))), (m21, .inl (G.2.1, 12, .inl (fun _ => 0))), (m22, .inl (G.2.1, 12, .inl (fun _ => 0))), (m23, .inl (G.2.1, 72, .inl (fun _ => 0))), (m24, .inl (G.2.1, 48, .inl (fun _ => 0))), (m25, .inl (G.2.1, 4, .inl (fun _ => 0))), (m26, .inl (G.2.1, 1900, .inl (fun _ => 0))), (aout, .inl (G.2.2.2.2, 1, .inr (.inl (vp_updL (fun _ => 0) 0 0)))), (x0, .inr (11, ofL 17 (updV (updV (updV (updV (updV (updV Fx0 13 (.int 0)) 14 (.int (-1))) 4 (.ref x3)) 3 (.ref x5)) 15 (.int 0)) 16 (.int 0)))), (x31, .inr (1, ofL 10 (updV Fx31 7 (.ref x5)))), (x1, .inl (G.2.1, 700, .inl ((fun _ => 0)))), (x6, .inr (8, ofL 5 (updV (updV Fx6 3 (.int 0)) 4 (.int 0)))), (x7, .inr (6, ofL 11 (updV (updV (updV (updV (updV (updV (updV (updV (updV (updV (updV Fx7 1 (.ref x5)) 2 (.int 0)) 3 (.int 0)) 7 (.int 0)) 8 (.int (-1))) 9 (.int 0)) 10 (.int 0)) 4 (.int 0)) 5 (.int 0)) 6 (.int 0)) 4 (.int 0)))), (x8, .inr (3, ofL 12 (updV (updV (updV Fx8 9 (.int 0)) 10 (.int 0)) 11 (.int (-1))))), (x5, .inr (7, ofL 5 (updV (updV (updV Fx5 2 (.int 0)) 3 (.int 1)) 4 (.int 99))))] := hD
    refine lv_istore (lv' := [(5, .int 0), (0, .ref b), (1, .ref x0), (2, .ref m0), (3, .ref aout), (4, .int 0)]) hx hb dL_law_296 hl (by decide) rfl (fun ls hl => ?_)
    refine lv_aload_n hx hb dL_law_298 rfl (lv_at hl 3 rfl) ?_
    refine lv_aload_n hx hb dL_law_299 rfl (lv_at hl 1 rfl) ?_
    refine lv_iload hx hb dL_law_300 (lv_at hl 5 rfl) ?_
    refine lv_iconst (v := 1) hx hb dL_law_302 (by decide) ?_
    refine lv_iadd hx hb dL_law_303 ?_
    refine k_eqi (y := 1) (by decide) ?_
    refine va_sld hx hb hX hbl hbA hS (k_in (by decide)) dL_law_304 ?_
    refine k_eqi (y := 0) hv1 ?_
    refine k_callVi (wr := [(aout, .inl (G.2.2.2.2, 1, .inr (.inl (vp_updL (fun _ => 0) 0 0)))), (x0, .inr (11, ofL 17 (updV (updV (updV (updV (updV (updV Fx0 13 (.int 0)) 14 (.int (-1))) 4 (.ref x3)) 3 (.ref x5)) 15 (.int 0)) 16 (.int 0)))), (x31, .inr (1, ofL 10 (updV Fx31 7 (.ref x5)))), (x1, .inl (G.2.1, 700, .inl ((fun _ => 0)))), (x6, .inr (8, ofL 5 (updV (updV Fx6 3 (.int 0)) 4 (.int 0)))), (x7, .inr (6, ofL 11 (updV (updV (updV (updV (updV (updV (updV (updV (updV (updV (updV Fx7 1 (.ref x5)) 2 (.int 0)) 3 (.int 0)) 7 (.int 0)) 8 (.int (-1))) 9 (.int 0)) 10 (.int 0)) 4 (.int 0)) 5 (.int 0)) 6 (.int 0)) 4 (.int 0)))), (x8, .inr (3, ofL 12 (updV (updV (updV Fx8 9 (.int 0)) 10 (.int 0)) 11 (.int (-1))))), (x5, .inr (7, ofL 5 (updV (updV (updV Fx5 2 (.int 0)) 3 (.int 1)) 4 (.int 99))))]) (rest := []) li_L_117 C (c_X12_house l G H.size m0 0 Fm0 m1 m2 m3 m4 m5 m6 m7 m8 m9 m10 m11 m12 m15 m16 m17 m18 m19 m20 m21 m22 m23 m24 m25 m26 (fun _ => 0) (fun _ => 0) (fun _ => 0) (fun _ => 0) (fun _ => 0) (fun _ => 0) (fun _ => 0) (fun _ => 0) (fun _ => 0) (fun _ => 0) (fun _ => 0) (fun _ => 0) (fun _ => 0) (fun _ => 0) (fun _ => 0) (fun _ => 0) (fun _ => 0) (fun _ => 0) (fun _ => 0) (fun _ => 0) (fun _ => 0) (fun _ => 0) (fun _ => 0) (fun _ => 0) e_m0_38 e_m0_5 e_m0_39 e_m0_6 e_m0_40 e_m0_7 e_m0_41 e_m0_8 e_m0_42 e_m0_9 e_m0_43 e_m0_10 e_m0_44 e_m0_11 e_m0_45 e_m0_12 e_m0_46 e_m0_13 e_m0_47 e_m0_16 e_m0_48 e_m0_14 e_m0_49 e_m0_15 e_m0_18) (kR rfl) hP hD hS [0, 13, 1, 14, 2, 15, 3, 16, 4, 17, 5, 18, 6, 19, 7, 20, 8, 21, 9, 22, 12, 23, 10, 24, 11] [25, 26, 27, 28, 29, 30, 31, 32] rfl rfl rfl rfl (by decide) 0 12 rfl rfl rfl hl.1 rfl (Nat.le_of_ble_eq_true rfl) dL_law_305 (fun rr46 uu47 H locs hw45 hP hD hS => ?_)
    rcases hw45 with ⟨rfl, rfl, c_48⟩ | ⟨rfl, rfl, c_49, c_50⟩ | ⟨rfl, rfl, c_51, c_52, c_53⟩
    ·
      exact absurd c_48 (by decide)
    ·
      exact absurd c_50 (by decide)
    ·
      have hP : va_P G.1 vwCl [(aout, .inl (G.2.2.2.2, 1, .inr (.inl (vp_updL (fun _ => 0) 0 0)))), (x0, .inr (11, ofL 17 (updV (updV (updV (updV (updV (updV Fx0 13 (.int 0)) 14 (.int (-1))) 4 (.ref x3)) 3 (.ref x5)) 15 (.int 0)) 16 (.int 0)))), (x31, .inr (1, ofL 10 (updV Fx31 7 (.ref x5)))), (x1, .inl (G.2.1, 700, .inl ((fun _ => 0)))), (x6, .inr (8, ofL 5 (updV (updV Fx6 3 (.int 0)) 4 (.int 0)))), (x7, .inr (6, ofL 11 (updV (updV (updV (updV (updV (updV (updV (updV (updV (updV (updV Fx7 1 (.ref x5)) 2 (.int 0)) 3 (.int 0)) 7 (.int 0)) 8 (.int (-1))) 9 (.int 0)) 10 (.int 0)) 4 (.int 0)) 5 (.int 0)) 6 (.int 0)) 4 (.int 0)))), (x8, .inr (3, ofL 12 (updV (updV (updV Fx8 9 (.int 0)) 10 (.int 0)) 11 (.int (-1))))), (x5, .inr (7, ofL 5 (updV (updV (updV Fx5 2 (.int 0)) 3 (.int 1)) 4 (.int 99)))), (m0, .inr (12, ofL 88 (updV (updV (updV (updV (updV (updV (updV (updV (updV (updV (updV (updV (updV (updV (updV (updV (updV (updV (updV (updV (updV (updV (updV (updV (updV (updV (updV Fm0 0 (.int 0)) 18 (.int 0)) 20 (.int (-1))) 19 (.int 0)) 22 (.int 0)) 23 (.int 0)) 30 (.int 0)) 31 (.int 0)) 32 (.int 1)) 33 (.int 99)) 34 (.int 0)) 35 (.int 0)) 25 (.int 0)) 29 (.long 0)) 27 (.int 0)) 28 (.int 0)) 24 (.int 0)) 26 (.int 0)) 1 (.int 0)) 2 (.int 0)) 3 (.int 1)) 4 (.int 99)) 52 (.int (-1))) 62 (.int 0)) 73 (.int 0)) 65 (.int 0)) 81 (.int 0))))] H := hP
      have hD : va_D A [(aout, .inl (G.2.2.2.2, 1, .inr (.inl (vp_updL (fun _ => 0) 0 0)))), (x0, .inr (11, ofL 17 (updV (updV (updV (updV (updV (updV Fx0 13 (.int 0)) 14 (.int (-1))) 4 (.ref x3)) 3 (.ref x5)) 15 (.int 0)) 16 (.int 0)))), (x31, .inr (1, ofL 10 (updV Fx31 7 (.ref x5)))), (x1, .inl (G.2.1, 700, .inl ((fun _ => 0)))), (x6, .inr (8, ofL 5 (updV (updV Fx6 3 (.int 0)) 4 (.int 0)))), (x7, .inr (6, ofL 11 (updV (updV (updV (updV (updV (updV (updV (updV (updV (updV (updV Fx7 1 (.ref x5)) 2 (.int 0)) 3 (.int 0)) 7 (.int 0)) 8 (.int (-1))) 9 (.int 0)) 10 (.int 0)) 4 (.int 0)) 5 (.int 0)) 6 (.int 0)) 4 (.int 0)))), (x8, .inr (3, ofL 12 (updV (updV (updV Fx8 9 (.int 0)) 10 (.int 0)) 11 (.int (-1))))), (x5, .inr (7, ofL 5 (updV (updV (updV Fx5 2 (.int 0)) 3 (.int 1)) 4 (.int 99)))), (m0, .inr (12, ofL 88 (updV (updV (updV (updV (updV (updV (updV (updV (updV (updV (updV (updV (updV (updV (updV (updV (updV (updV (updV (updV (updV (updV (updV (updV (updV (updV (updV Fm0 0 (.int 0)) 18 (.int 0)) 20 (.int (-1))) 19 (.int 0)) 22 (.int 0)) 23 (.int 0)) 30 (.int 0)) 31 (.int 0)) 32 (.int 1)) 33 (.int 99)) 34 (.int 0)) 35 (.int 0)) 25 (.int 0)) 29 (.long 0)) 27 (.int 0)) 28 (.int 0)) 24 (.int 0)) 26 (.int 0)) 1 (.int 0)) 2 (.int 0)) 3 (.int 1)) 4 (.int 99)) 52 (.int (-1))) 62 (.int 0)) 73 (.int 0)) 65 (.int 0)) 81 (.int 0))))] := hD
      refine lv_istore (lv' := [(6, .int 0), (5, .int 0), (0, .ref b), (1, .ref x0), (2, .ref m0), (3, .ref aout), (4, .int 0)]) hx hb dL_law_308 hl (by decide) rfl (fun ls hl => ?_)
      refine lv_aload_n hx hb dL_law_310 rfl (lv_at hl 4 rfl) ?_
      refine k_callVi (wr := [(aout, .inl (G.2.2.2.2, 1, .inr (.inl (vp_updL (fun _ => 0) 0 0)))), (x0, .inr (11, ofL 17 (updV (updV (updV (updV (updV (updV Fx0 13 (.int 0)) 14 (.int (-1))) 4 (.ref x3)) 3 (.ref x5)) 15 (.int 0)) 16 (.int 0)))), (x31, .inr (1, ofL 10 (updV Fx31 7 (.ref x5)))), (x1, .inl (G.2.1, 700, .inl ((fun _ => 0)))), (x6, .inr (8, ofL 5 (updV (updV Fx6 3 (.int 0)) 4 (.int 0)))), (x7, .inr (6, ofL 11 (updV (updV (updV (updV (updV (updV (updV (updV (updV (updV (updV Fx7 1 (.ref x5)) 2 (.int 0)) 3 (.int 0)) 7 (.int 0)) 8 (.int (-1))) 9 (.int 0)) 10 (.int 0)) 4 (.int 0)) 5 (.int 0)) 6 (.int 0)) 4 (.int 0)))), (x8, .inr (3, ofL 12 (updV (updV (updV Fx8 9 (.int 0)) 10 (.int 0)) 11 (.int (-1))))), (x5, .inr (7, ofL 5 (updV (updV (updV Fx5 2 (.int 0)) 3 (.int 1)) 4 (.int 99))))]) (rest := []) li_L_118 C (c_X12_thrown l G H.size m0 (updV (updV (updV (updV (updV (updV (updV (updV (updV (updV (updV (updV (updV (updV (updV (updV (updV (updV (updV (updV (updV (updV (updV (updV (updV (updV (updV Fm0 0 (.int 0)) 18 (.int 0)) 20 (.int (-1))) 19 (.int 0)) 22 (.int 0)) 23 (.int 0)) 30 (.int 0)) 31 (.int 0)) 32 (.int 1)) 33 (.int 99)) 34 (.int 0)) 35 (.int 0)) 25 (.int 0)) 29 (.long 0)) 27 (.int 0)) 28 (.int 0)) 24 (.int 0)) 26 (.int 0)) 1 (.int 0)) 2 (.int 0)) 3 (.int 1)) 4 (.int 99)) 52 (.int (-1))) 62 (.int 0)) 73 (.int 0)) 65 (.int 0)) 81 (.int 0)) 0 rfl) (kR rfl) hP hD hS [8] [0, 1, 2, 3, 4, 5, 6, 7] rfl rfl rfl rfl (by decide) 0 12 rfl rfl rfl hl.1 rfl (Nat.le_of_ble_eq_true rfl) dL_law_311 (fun rr55 uu56 H locs hw54 hP hD hS => ?_)
      obtain rfl : rr55 = 0 := hw54
      have hP : va_P G.1 vwCl [(aout, .inl (G.2.2.2.2, 1, .inr (.inl (vp_updL (fun _ => 0) 0 0)))), (x0, .inr (11, ofL 17 (updV (updV (updV (updV (updV (updV Fx0 13 (.int 0)) 14 (.int (-1))) 4 (.ref x3)) 3 (.ref x5)) 15 (.int 0)) 16 (.int 0)))), (x31, .inr (1, ofL 10 (updV Fx31 7 (.ref x5)))), (x1, .inl (G.2.1, 700, .inl ((fun _ => 0)))), (x6, .inr (8, ofL 5 (updV (updV Fx6 3 (.int 0)) 4 (.int 0)))), (x7, .inr (6, ofL 11 (updV (updV (updV (updV (updV (updV (updV (updV (updV (updV (updV Fx7 1 (.ref x5)) 2 (.int 0)) 3 (.int 0)) 7 (.int 0)) 8 (.int (-1))) 9 (.int 0)) 10 (.int 0)) 4 (.int 0)) 5 (.int 0)) 6 (.int 0)) 4 (.int 0)))), (x8, .inr (3, ofL 12 (updV (updV (updV Fx8 9 (.int 0)) 10 (.int 0)) 11 (.int (-1))))), (x5, .inr (7, ofL 5 (updV (updV (updV Fx5 2 (.int 0)) 3 (.int 1)) 4 (.int 99)))), (m0, .inr (12, ofL 88 (updV (updV (updV (updV (updV (updV (updV (updV (updV (updV (updV (updV (updV (updV (updV (updV (updV (updV (updV (updV (updV (updV (updV (updV (updV (updV (updV Fm0 0 (.int 0)) 18 (.int 0)) 20 (.int (-1))) 19 (.int 0)) 22 (.int 0)) 23 (.int 0)) 30 (.int 0)) 31 (.int 0)) 32 (.int 1)) 33 (.int 99)) 34 (.int 0)) 35 (.int 0)) 25 (.int 0)) 29 (.long 0)) 27 (.int 0)) 28 (.int 0)) 24 (.int 0)) 26 (.int 0)) 1 (.int 0)) 2 (.int 0)) 3 (.int 1)) 4 (.int 99)) 52 (.int (-1))) 62 (.int 0)) 73 (.int 0)) 65 (.int 0)) 81 (.int 0))))] H := hP
      have hD : va_D A [(aout, .inl (G.2.2.2.2, 1, .inr (.inl (vp_updL (fun _ => 0) 0 0)))), (x0, .inr (11, ofL 17 (updV (updV (updV (updV (updV (updV Fx0 13 (.int 0)) 14 (.int (-1))) 4 (.ref x3)) 3 (.ref x5)) 15 (.int 0)) 16 (.int 0)))), (x31, .inr (1, ofL 10 (updV Fx31 7 (.ref x5)))), (x1, .inl (G.2.1, 700, .inl ((fun _ => 0)))), (x6, .inr (8, ofL 5 (updV (updV Fx6 3 (.int 0)) 4 (.int 0)))), (x7, .inr (6, ofL 11 (updV (updV (updV (updV (updV (updV (updV (updV (updV (updV (updV Fx7 1 (.ref x5)) 2 (.int 0)) 3 (.int 0)) 7 (.int 0)) 8 (.int (-1))) 9 (.int 0)) 10 (.int 0)) 4 (.int 0)) 5 (.int 0)) 6 (.int 0)) 4 (.int 0)))), (x8, .inr (3, ofL 12 (updV (updV (updV Fx8 9 (.int 0)) 10 (.int 0)) 11 (.int (-1))))), (x5, .inr (7, ofL 5 (updV (updV (updV Fx5 2 (.int 0)) 3 (.int 1)) 4 (.int 99)))), (m0, .inr (12, ofL 88 (updV (updV (updV (updV (updV (updV (updV (updV (updV (updV (updV (updV (updV (updV (updV (updV (updV (updV (updV (updV (updV (updV (updV (updV (updV (updV (updV Fm0 0 (.int 0)) 18 (.int 0)) 20 (.int (-1))) 19 (.int 0)) 22 (.int 0)) 23 (.int 0)) 30 (.int 0)) 31 (.int 0)) 32 (.int 1)) 33 (.int 99)) 34 (.int 0)) 35 (.int 0)) 25 (.int 0)) 29 (.long 0)) 27 (.int 0)) 28 (.int 0)) 24 (.int 0)) 26 (.int 0)) 1 (.int 0)) 2 (.int 0)) 3 (.int 1)) 4 (.int 99)) 52 (.int (-1))) 62 (.int 0)) 73 (.int 0)) 65 (.int 0)) 81 (.int 0))))] := hD
      refine lv_iload hx hb dL_law_314 (lv_at hl 1 rfl) ?_
      refine lv_icmp_eq (x := 0) (y := 0) (tgt := 321) hx hb dL_law_316 (by decide) (fun c_57 => ?_) (fun c_57 => ?_)
      rotate_left
      · exact absurd (by decide) c_57
      refine lv_iload hx hb dL_law_321 (lv_at hl 1 rfl) ?_
      refine lv_if_ne (x := 0) (tgt := 338) hx hb dL_law_323 (by decide) (fun c_58 => ?_) (fun c_58 => ?_)
      · exact absurd (by decide) c_58
      refine lv_aload_n hx hb dL_law_326 rfl (lv_at hl 5 rfl) ?_
      refine lv_iconst (v := 0) hx hb dL_law_327 (by decide) ?_
      refine k_lald C hP 0 rfl (k_in (by decide)) dL_law_328 ?_
      refine k_eql (y := 0) rfl ?_
      refine lv_iload hx hb dL_law_329 (lv_at hl 0 rfl) ?_
      refine lv_i2l (v := 0) hx hb dL_law_331 (by decide) ?_
      refine W.lcmp hx hb dL_law_332 ?_
      refine k_eqi (y := 0) (by decide) ?_
      refine lv_if_eq (x := 0) (tgt := 338) hx hb dL_law_333 (by decide) (fun c_59 => ?_) (fun c_59 => ?_)
      rotate_left
      · exact absurd (by decide) c_59
      refine lv_goto (tgt := 2265) hx hb dL_law_338 (by decide) ?_
      exact law_end hst C0 hA C hS (lv_sub hl [2, 6] rfl) (Nat.le_of_ble_eq_true rfl) (Nat.le_of_ble_eq_true rfl)
set_option maxHeartbeats 4000000 in
set_option maxRecDepth 100000 in
theorem law_2 {p : Program} {e : Env} {s : State} {m : MethodId} {below : List Frame} {meth : Method} {c : Code} {l : Launch} (hst : l.stackTraces = false) {b : Nat} {xs : Nat → Int32} {G : kG} {A : Nat → Prop} (C0 : lw_At p s m meth c b 6 xs) (hA : A = fun q : Nat => s.heap.size ≤ q) (C : kC G p s m c cL_law 8 RL A) {v1 : Int32} (hv1 : xs 1 = v1) {v2 : Int32} (hv2 : xs 2 = v2) {v3 : Int32} (hv3 : xs 3 = v3) {v4 : Int32} (hv4 : xs 4 = v4) {v5 : Int32} (hv5 : xs 5 = v5) {x0 : Nat} {Fx0 : Nat → Value} {m0 : Nat} {Fm0 : Nat → Value} {aout : Nat} (e_x0_14 : Fx0 14 = .int (-1)) (e_m0_20 : Fm0 20 = .int (-1)) {H : Heap} {locs : List Loc} {ls : Array Slot} (hP : va_P G.1 vwCl [(x0, .inr (11, ofL 17 Fx0)), (m0, .inr (12, ofL 88 Fm0))] H) (hD : va_D A [(x0, .inr (11, ofL 17 Fx0)), (m0, .inr (12, ofL 88 Fm0))]) (hS : va_S A s.heap H locs) (hl : lv_has ls 8 [(0, .ref b), (1, .ref x0), (2, .ref m0), (3, .ref aout), (4, .int 0)]) :
    W p l e room_1 s m #[Value.ref b] below meth c H locs 1000 20000 (lw_Z below #[Value.ref b] s) (F0 m 341 ls []) := by
  obtain ⟨hx, hb, hr, -, -, -, hX, hbl, hlocks, -⟩ := id C0
  have hbA : ¬ A b := by rw [hA]; exact Nat.not_le.mpr hbl
  refine lv_aload_n hx hb dL_law_341 rfl (lv_at hl 1 rfl) ?_
  refine k_callVi (wr := [(m0, .inr (12, ofL 88 Fm0))]) (rest := []) li_L_122 C (c_X11_fault l G H.size x0 Fx0 (-1) e_x0_14) (kR rfl) hP hD hS [0] [1] rfl rfl rfl rfl (by decide) 0 11 rfl rfl rfl hl.1 rfl (Nat.le_of_ble_eq_true rfl) dL_law_342 (fun rr2 uu3 H locs hw1 hP hD hS => ?_)
  obtain rfl : rr2 = -1 := hw1
  have hP : va_P G.1 vwCl [(m0, .inr (12, ofL 88 Fm0)), (x0, .inr (11, ofL 17 Fx0))] H := hP
  have hD : va_D A [(m0, .inr (12, ofL 88 Fm0)), (x0, .inr (11, ofL 17 Fx0))] := hD
  refine lv_aload_n hx hb dL_law_345 rfl (lv_at hl 2 rfl) ?_
  refine k_callVi (wr := [(x0, .inr (11, ofL 17 Fx0))]) (rest := [.int (-1)]) li_L_125 C (c_X12_fault l G H.size m0 Fm0 (-1) e_m0_20) (kR rfl) hP hD hS [0] [1] rfl rfl rfl rfl (by decide) 0 12 rfl rfl rfl hl.1 rfl (Nat.le_of_ble_eq_true rfl) dL_law_346 (fun rr5 uu6 H locs hw4 hP hD hS => ?_)
  obtain rfl : rr5 = -1 := hw4
  have hP : va_P G.1 vwCl [(x0, .inr (11, ofL 17 Fx0)), (m0, .inr (12, ofL 88 (updV Fm0 0 (.int 0))))] H := hP
  have hD : va_D A [(x0, .inr (11, ofL 17 Fx0)), (m0, .inr (12, ofL 88 (updV Fm0 0 (.int 0))))] := hD
  refine lv_icmp_eq (x := -1) (y := -1) (tgt := 2265) hx hb dL_law_349 (by decide) (fun c_7 => ?_) (fun c_7 => ?_)
  rotate_left
  · exact absurd (by decide) c_7
  exact law_end hst C0 hA C hS (lv_sub hl [0, 4] rfl) (Nat.le_of_ble_eq_true rfl) (Nat.le_of_ble_eq_true rfl)
set_option maxHeartbeats 4000000 in
set_option maxRecDepth 100000 in
theorem law_3 {p : Program} {e : Env} {s : State} {m : MethodId} {below : List Frame} {meth : Method} {c : Code} {l : Launch} (hst : l.stackTraces = false) {b : Nat} {xs : Nat → Int32} {G : kG} {A : Nat → Prop} (C0 : lw_At p s m meth c b 6 xs) (hA : A = fun q : Nat => s.heap.size ≤ q) (C : kC G p s m c cL_law 8 RL A) {v1 : Int32} (hv1 : xs 1 = v1) {v2 : Int32} (hv2 : xs 2 = v2) {v3 : Int32} (hv3 : xs 3 = v3) {v4 : Int32} (hv4 : xs 4 = v4) {v5 : Int32} (hv5 : xs 5 = v5) {x0 : Nat} {Fx0 : Nat → Value} {x2 : Nat} {x3 : Nat} {x8 : Nat} {x31 : Nat} {Fx3 : Nat → Value} {x4 : Nat} {Fx4 : Nat → Value} {Fx8 : Nat → Value} {Fx31 : Nat → Value} {m0 : Nat} {Fm0 : Nat → Value} {m14 : Nat} {aout : Nat} (e_x0_1 : Fx0 1 = .ref x2) (e_x0_3 : Fx0 3 = .ref x3) (e_x0_6 : Fx0 6 = .ref x8) (e_x0_8 : Fx0 8 = .ref x31) (e_x0_13 : Fx0 13 = .int 0) (e_x3_1 : Fx3 1 = .ref x4) (e_x3_2 : Fx3 2 = .int 0) (e_x3_3 : Fx3 3 = .int 1) (e_x3_4 : Fx3 4 = .int 99) (e_x4_3 : Fx4 3 = .int 0) (e_x8_9 : Fx8 9 = .int 0) (e_x8_10 : Fx8 10 = .int 0) (e_x8_11 : Fx8 11 = .int (-1)) (e_x31_7 : Fx31 7 = .ref x3) (e_m0_1 : Fm0 1 = .int 0) (e_m0_2 : Fm0 2 = .int 0) (e_m0_3 : Fm0 3 = .int 1) (e_m0_4 : Fm0 4 = .int 99) (e_m0_18 : Fm0 18 = .int 0) (e_m0_21 : Fm0 21 = .ref m14) (e_m0_52 : Fm0 52 = .int (-1)) (e_m0_62 : Fm0 62 = .int 0) (e_m0_73 : Fm0 73 = .int 0) {H : Heap} {locs : List Loc} {ls : Array Slot} (hP : va_P G.1 vwCl [(x0, .inr (11, ofL 17 Fx0)), (x2, .inl (G.2.1, 3, .inl (fun _ => 0))), (x3, .inr (7, ofL 5 Fx3)), (x4, .inr (8, ofL 5 Fx4)), (x8, .inr (3, ofL 12 Fx8)), (x31, .inr (1, ofL 10 Fx31)), (m0, .inr (12, ofL 88 Fm0)), (m14, .inl (G.2.1, 3, .inl (fun _ => 0))), (aout, .inl (G.2.2.2.2, 1, .inr (.inl (fun _ => 0))))] H) (hD : va_D A [(x0, .inr (11, ofL 17 Fx0)), (x2, .inl (G.2.1, 3, .inl (fun _ => 0))), (x3, .inr (7, ofL 5 Fx3)), (x4, .inr (8, ofL 5 Fx4)), (x8, .inr (3, ofL 12 Fx8)), (x31, .inr (1, ofL 10 Fx31)), (m0, .inr (12, ofL 88 Fm0)), (m14, .inl (G.2.1, 3, .inl (fun _ => 0))), (aout, .inl (G.2.2.2.2, 1, .inr (.inl (fun _ => 0))))]) (hS : va_S A s.heap H locs) (hl : lv_has ls 8 [(0, .ref b), (1, .ref x0), (2, .ref m0), (3, .ref aout), (4, .int 0)]) :
    W p l e room_1 s m #[Value.ref b] below meth c H locs 1000 20000 (lw_Z below #[Value.ref b] s) (F0 m 354 ls []) := by
  obtain ⟨hx, hb, hr, -, -, -, hX, hbl, hlocks, -⟩ := id C0
  have hbA : ¬ A b := by rw [hA]; exact Nat.not_le.mpr hbl
  refine lv_aload_n hx hb dL_law_354 rfl (lv_at hl 1 rfl) ?_
  refine lv_aload_n hx hb dL_law_355 rfl (lv_at hl 0 rfl) ?_
  refine lv_iload hx hb dL_law_356 (lv_at hl 4 rfl) ?_
  refine lv_iconst (v := 1) hx hb dL_law_358 (by decide) ?_
  refine lv_iadd hx hb dL_law_359 ?_
  refine k_eqi (y := 1) (by decide) ?_
  refine va_sld hx hb hX hbl hbA hS (k_in (by decide)) dL_law_360 ?_
  refine k_eqi (y := v1) hv1 ?_
  refine lv_aload_n hx hb dL_law_361 rfl (lv_at hl 3 rfl) ?_
  refine k_callHi (wr := [(m0, .inr (12, ofL 88 Fm0)), (m14, .inl (G.2.1, 3, .inl (fun _ => 0)))]) (rest := []) li_L_126 C (c_L_count l hst G H.size x0 v1 aout Fx0 x2 x3 x8 x31 Fx3 x4 Fx4 Fx8 Fx31 (fun _ => 0) e_x0_3 e_x0_6 e_x0_8 e_x0_13 e_x0_1 e_x3_1 e_x3_2 e_x3_3 e_x3_4 e_x4_3 e_x8_9 e_x8_10 e_x8_11 e_x31_7) (kR rfl) hP hD hS [0, 2, 3, 4, 5, 1, 8] [6, 7] rfl rfl rfl rfl (by decide) rfl hl.1 rfl (Nat.le_of_ble_eq_true rfl) dL_law_362 (fun rr2 uu3 H locs hw1 hP hD hS => ?_)
  rcases hw1 with ⟨rfl, rfl, c_4⟩ | ⟨rfl, rfl, c_5, c_6⟩ | ⟨rfl, rfl, c_7, c_8, rfl⟩ | ⟨rfl, rfl, c_9, c_10, rfl⟩ | ⟨rfl, rfl, c_11, c_12, rfl⟩ | ⟨rfl, rfl, c_13, c_14, rfl⟩ | ⟨rfl, rfl, c_15, c_16, rfl⟩ | ⟨rfl, rfl, c_17, c_18, rfl⟩ | ⟨rfl, rfl, c_19, c_20, rfl⟩ | ⟨rfl, rfl, c_21, c_22, rfl⟩ | ⟨rfl, rfl, c_23, c_24, rfl⟩ | ⟨rfl, rfl, c_25, c_26, rfl⟩ | ⟨rfl, rfl, c_27, c_28, rfl⟩ | ⟨rfl, rfl, c_29, c_30, rfl⟩ | ⟨rfl, rfl, c_31, c_32, rfl⟩ | ⟨rfl, rfl, c_33, c_34, rfl⟩ | ⟨rfl, rfl, c_35, c_36, rfl⟩
  ·
    have hP : va_P G.1 vwCl [(m0, .inr (12, ofL 88 Fm0)), (m14, .inl (G.2.1, 3, .inl (fun _ => 0))), (aout, .inl (G.2.2.2.2, 1, .inr (.inl ((fun _ => 0))))), (x0, .inr (11, ofL 17 Fx0)), (x3, .inr (7, ofL 5 Fx3)), (x4, .inr (8, ofL 5 Fx4)), (x8, .inr (3, ofL 12 Fx8)), (x31, .inr (1, ofL 10 Fx31)), (x2, .inl (G.2.1, 3, .inl (fun _ => 0)))] H := hP
    have hD : va_D A [(m0, .inr (12, ofL 88 Fm0)), (m14, .inl (G.2.1, 3, .inl (fun _ => 0))), (aout, .inl (G.2.2.2.2, 1, .inr (.inl ((fun _ => 0))))), (x0, .inr (11, ofL 17 Fx0)), (x3, .inr (7, ofL 5 Fx3)), (x4, .inr (8, ofL 5 Fx4)), (x8, .inr (3, ofL 12 Fx8)), (x31, .inr (1, ofL 10 Fx31)), (x2, .inl (G.2.1, 3, .inl (fun _ => 0)))] := hD
    refine lv_istore (lv' := [(5, .int 1), (0, .ref b), (1, .ref x0), (2, .ref m0), (3, .ref aout), (4, .int 0)]) hx hb dL_law_365 hl (by decide) rfl (fun ls hl => ?_)
    refine lv_aload_n hx hb dL_law_367 rfl (lv_at hl 3 rfl) ?_
    refine lv_aload_n hx hb dL_law_368 rfl (lv_at hl 1 rfl) ?_
    refine lv_iload hx hb dL_law_369 (lv_at hl 5 rfl) ?_
    refine lv_iconst (v := 1) hx hb dL_law_371 (by decide) ?_
    refine lv_iadd hx hb dL_law_372 ?_
    refine k_eqi (y := 1) (by decide) ?_
    refine va_sld hx hb hX hbl hbA hS (k_in (by decide)) dL_law_373 ?_
    refine k_eqi (y := v1) hv1 ?_
    refine k_callVi (wr := [(aout, .inl (G.2.2.2.2, 1, .inr (.inl ((fun _ => 0))))), (x0, .inr (11, ofL 17 Fx0)), (x3, .inr (7, ofL 5 Fx3)), (x4, .inr (8, ofL 5 Fx4)), (x8, .inr (3, ofL 12 Fx8)), (x31, .inr (1, ofL 10 Fx31)), (x2, .inl (G.2.1, 3, .inl (fun _ => 0)))]) (rest := []) li_L_128 C (c_X12_count l G H.size m0 v1 Fm0 m14 e_m0_1 e_m0_2 e_m0_52 e_m0_3 e_m0_4 e_m0_62 e_m0_73 e_m0_18 e_m0_21) (kR rfl) hP hD hS [0, 1] [2, 3, 4, 5, 6, 7, 8] rfl rfl rfl rfl (by decide) 0 12 rfl rfl rfl hl.1 rfl (Nat.le_of_ble_eq_true rfl) dL_law_374 (fun rr38 uu39 H locs hw37 hP hD hS => ?_)
    rcases hw37 with ⟨rfl, rfl, c_40⟩ | ⟨rfl, rfl, c_41, c_42⟩ | ⟨rfl, rfl, c_43, c_44, rfl⟩ | ⟨rfl, rfl, c_45, c_46, rfl⟩ | ⟨rfl, rfl, c_47, c_48, rfl⟩ | ⟨rfl, rfl, c_49, c_50, rfl⟩ | ⟨rfl, rfl, c_51, c_52, rfl⟩ | ⟨rfl, rfl, c_53, c_54, rfl⟩ | ⟨rfl, rfl, c_55, c_56, rfl⟩ | ⟨rfl, rfl, c_57, c_58, rfl⟩ | ⟨rfl, rfl, c_59, c_60, rfl⟩ | ⟨rfl, rfl, c_61, c_62, rfl⟩ | ⟨rfl, rfl, c_63, c_64, rfl⟩ | ⟨rfl, rfl, c_65, c_66, rfl⟩ | ⟨rfl, rfl, c_67, c_68, rfl⟩ | ⟨rfl, rfl, c_69, c_70, rfl⟩ | ⟨rfl, rfl, c_71, c_72, rfl⟩
    ·
      have hP : va_P G.1 vwCl [(aout, .inl (G.2.2.2.2, 1, .inr (.inl ((fun _ => 0))))), (x0, .inr (11, ofL 17 Fx0)), (x3, .inr (7, ofL 5 Fx3)), (x4, .inr (8, ofL 5 Fx4)), (x8, .inr (3, ofL 12 Fx8)), (x31, .inr (1, ofL 10 Fx31)), (x2, .inl (G.2.1, 3, .inl (fun _ => 0))), (m14, .inl (G.2.1, 3, .inl (fun _ => 0))), (m0, .inr (12, ofL 88 (updV (updV Fm0 0 (.int 0)) 0 (.int 1))))] H := hP
      have hD : va_D A [(aout, .inl (G.2.2.2.2, 1, .inr (.inl ((fun _ => 0))))), (x0, .inr (11, ofL 17 Fx0)), (x3, .inr (7, ofL 5 Fx3)), (x4, .inr (8, ofL 5 Fx4)), (x8, .inr (3, ofL 12 Fx8)), (x31, .inr (1, ofL 10 Fx31)), (x2, .inl (G.2.1, 3, .inl (fun _ => 0))), (m14, .inl (G.2.1, 3, .inl (fun _ => 0))), (m0, .inr (12, ofL 88 (updV (updV Fm0 0 (.int 0)) 0 (.int 1))))] := hD
      refine lv_istore (lv' := [(6, .int 0), (5, .int 1), (0, .ref b), (1, .ref x0), (2, .ref m0), (3, .ref aout), (4, .int 0)]) hx hb dL_law_377 hl (by decide) rfl (fun ls hl => ?_)
      refine lv_aload_n hx hb dL_law_379 rfl (lv_at hl 4 rfl) ?_
      refine k_callVi (wr := [(aout, .inl (G.2.2.2.2, 1, .inr (.inl ((fun _ => 0))))), (x0, .inr (11, ofL 17 Fx0)), (x3, .inr (7, ofL 5 Fx3)), (x4, .inr (8, ofL 5 Fx4)), (x8, .inr (3, ofL 12 Fx8)), (x31, .inr (1, ofL 10 Fx31)), (x2, .inl (G.2.1, 3, .inl (fun _ => 0))), (m14, .inl (G.2.1, 3, .inl (fun _ => 0)))]) (rest := []) li_L_118 C (c_X12_thrown l G H.size m0 (updV (updV Fm0 0 (.int 0)) 0 (.int 1)) 1 rfl) (kR rfl) hP hD hS [8] [0, 1, 2, 3, 4, 5, 6, 7] rfl rfl rfl rfl (by decide) 0 12 rfl rfl rfl hl.1 rfl (Nat.le_of_ble_eq_true rfl) dL_law_380 (fun rr74 uu75 H locs hw73 hP hD hS => ?_)
      obtain rfl : rr74 = 1 := hw73
      have hP : va_P G.1 vwCl [(aout, .inl (G.2.2.2.2, 1, .inr (.inl ((fun _ => 0))))), (x0, .inr (11, ofL 17 Fx0)), (x3, .inr (7, ofL 5 Fx3)), (x4, .inr (8, ofL 5 Fx4)), (x8, .inr (3, ofL 12 Fx8)), (x31, .inr (1, ofL 10 Fx31)), (x2, .inl (G.2.1, 3, .inl (fun _ => 0))), (m14, .inl (G.2.1, 3, .inl (fun _ => 0))), (m0, .inr (12, ofL 88 (updV (updV Fm0 0 (.int 0)) 0 (.int 1))))] H := hP
      have hD : va_D A [(aout, .inl (G.2.2.2.2, 1, .inr (.inl ((fun _ => 0))))), (x0, .inr (11, ofL 17 Fx0)), (x3, .inr (7, ofL 5 Fx3)), (x4, .inr (8, ofL 5 Fx4)), (x8, .inr (3, ofL 12 Fx8)), (x31, .inr (1, ofL 10 Fx31)), (x2, .inl (G.2.1, 3, .inl (fun _ => 0))), (m14, .inl (G.2.1, 3, .inl (fun _ => 0))), (m0, .inr (12, ofL 88 (updV (updV Fm0 0 (.int 0)) 0 (.int 1))))] := hD
      refine lv_iload hx hb dL_law_383 (lv_at hl 1 rfl) ?_
      refine lv_icmp_eq (x := 1) (y := 1) (tgt := 390) hx hb dL_law_385 (by decide) (fun c_76 => ?_) (fun c_76 => ?_)
      rotate_left
      · exact absurd (by decide) c_76
      refine lv_iload hx hb dL_law_390 (lv_at hl 1 rfl) ?_
      refine lv_if_ne (x := 1) (tgt := 407) hx hb dL_law_392 (by decide) (fun c_77 => ?_) (fun c_77 => ?_)
      rotate_left
      · exact absurd c_77 (by decide)
      refine lv_goto (tgt := 2265) hx hb dL_law_407 (by decide) ?_
      exact law_end hst C0 hA C hS (lv_sub hl [2, 6] rfl) (Nat.le_of_ble_eq_true rfl) (Nat.le_of_ble_eq_true rfl)
    ·
      have hP : va_P G.1 vwCl [(aout, .inl (G.2.2.2.2, 1, .inr (.inl ((fun _ => 0))))), (x0, .inr (11, ofL 17 Fx0)), (x3, .inr (7, ofL 5 Fx3)), (x4, .inr (8, ofL 5 Fx4)), (x8, .inr (3, ofL 12 Fx8)), (x31, .inr (1, ofL 10 Fx31)), (x2, .inl (G.2.1, 3, .inl (fun _ => 0))), (m14, .inl (G.2.1, 3, .inl (fun _ => 0))), (m0, .inr (12, ofL 88 (updV (updV Fm0 0 (.int 0)) 0 (.int 1))))] H := hP
      have hD : va_D A [(aout, .inl (G.2.2.2.2, 1, .inr (.inl ((fun _ => 0))))), (x0, .inr (11, ofL 17 Fx0)), (x3, .inr (7, ofL 5 Fx3)), (x4, .inr (8, ofL 5 Fx4)), (x8, .inr (3, ofL 12 Fx8)), (x31, .inr (1, ofL 10 Fx31)), (x2, .inl (G.2.1, 3, .inl (fun _ => 0))), (m14, .inl (G.2.1, 3, .inl (fun _ => 0))), (m0, .inr (12, ofL 88 (updV (updV Fm0 0 (.int 0)) 0 (.int 1))))] := hD
      refine lv_istore (lv' := [(6, .int 0), (5, .int 1), (0, .ref b), (1, .ref x0), (2, .ref m0), (3, .ref aout), (4, .int 0)]) hx hb dL_law_377 hl (by decide) rfl (fun ls hl => ?_)
      refine lv_aload_n hx hb dL_law_379 rfl (lv_at hl 4 rfl) ?_
      refine k_callVi (wr := [(aout, .inl (G.2.2.2.2, 1, .inr (.inl ((fun _ => 0))))), (x0, .inr (11, ofL 17 Fx0)), (x3, .inr (7, ofL 5 Fx3)), (x4, .inr (8, ofL 5 Fx4)), (x8, .inr (3, ofL 12 Fx8)), (x31, .inr (1, ofL 10 Fx31)), (x2, .inl (G.2.1, 3, .inl (fun _ => 0))), (m14, .inl (G.2.1, 3, .inl (fun _ => 0)))]) (rest := []) li_L_118 C (c_X12_thrown l G H.size m0 (updV (updV Fm0 0 (.int 0)) 0 (.int 1)) 1 rfl) (kR rfl) hP hD hS [8] [0, 1, 2, 3, 4, 5, 6, 7] rfl rfl rfl rfl (by decide) 0 12 rfl rfl rfl hl.1 rfl (Nat.le_of_ble_eq_true rfl) dL_law_380 (fun rr79 uu80 H locs hw78 hP hD hS => ?_)
      obtain rfl : rr79 = 1 := hw78
      have hP : va_P G.1 vwCl [(aout, .inl (G.2.2.2.2, 1, .inr (.inl ((fun _ => 0))))), (x0, .inr (11, ofL 17 Fx0)), (x3, .inr (7, ofL 5 Fx3)), (x4, .inr (8, ofL 5 Fx4)), (x8, .inr (3, ofL 12 Fx8)), (x31, .inr (1, ofL 10 Fx31)), (x2, .inl (G.2.1, 3, .inl (fun _ => 0))), (m14, .inl (G.2.1, 3, .inl (fun _ => 0))), (m0, .inr (12, ofL 88 (updV (updV Fm0 0 (.int 0)) 0 (.int 1))))] H := hP
      have hD : va_D A [(aout, .inl (G.2.2.2.2, 1, .inr (.inl ((fun _ => 0))))), (x0, .inr (11, ofL 17 Fx0)), (x3, .inr (7, ofL 5 Fx3)), (x4, .inr (8, ofL 5 Fx4)), (x8, .inr (3, ofL 12 Fx8)), (x31, .inr (1, ofL 10 Fx31)), (x2, .inl (G.2.1, 3, .inl (fun _ => 0))), (m14, .inl (G.2.1, 3, .inl (fun _ => 0))), (m0, .inr (12, ofL 88 (updV (updV Fm0 0 (.int 0)) 0 (.int 1))))] := hD
      refine lv_iload hx hb dL_law_383 (lv_at hl 1 rfl) ?_
      refine lv_icmp_eq (x := 1) (y := 1) (tgt := 390) hx hb dL_law_385 (by decide) (fun c_81 => ?_) (fun c_81 => ?_)
      rotate_left
      · exact absurd (by decide) c_81
      refine lv_iload hx hb dL_law_390 (lv_at hl 1 rfl) ?_
      refine lv_if_ne (x := 1) (tgt := 407) hx hb dL_law_392 (by decide) (fun c_82 => ?_) (fun c_82 => ?_)
      rotate_left
      · exact absurd c_82 (by decide)
      refine lv_goto (tgt := 2265) hx hb dL_law_407 (by decide) ?_
      exact law_end hst C0 hA C hS (lv_sub hl [2, 6] rfl) (Nat.le_of_ble_eq_true rfl) (Nat.le_of_ble_eq_true rfl)
    ·
      exact absurd c_4 (by decide)
    ·
      exact absurd c_4 (by decide)
    ·
      exact absurd c_4 (by decide)
    ·
      exact absurd c_4 (by decide)
    ·
      exact absurd c_4 (by decide)
    ·
      exact absurd c_4 (by decide)
    ·
      exact absurd c_4 (by decide)
    ·
      exact absurd c_4 (by decide)
    ·
      exact absurd c_4 (by decide)
    ·
      exact absurd c_4 (by decide)
    ·
      exact absurd c_4 (by decide)
    ·
      exact absurd c_4 (by decide)
    ·
      exact absurd c_4 (by decide)
    ·
      exact absurd c_4 (by decide)
    ·
      exact absurd c_4 (by decide)
  ·
    have hP : va_P G.1 vwCl [(m0, .inr (12, ofL 88 Fm0)), (m14, .inl (G.2.1, 3, .inl (fun _ => 0))), (aout, .inl (G.2.2.2.2, 1, .inr (.inl ((fun _ => 0))))), (x0, .inr (11, ofL 17 Fx0)), (x3, .inr (7, ofL 5 Fx3)), (x4, .inr (8, ofL 5 Fx4)), (x8, .inr (3, ofL 12 Fx8)), (x31, .inr (1, ofL 10 Fx31)), (x2, .inl (G.2.1, 3, .inl (fun _ => 0)))] H := hP
    have hD : va_D A [(m0, .inr (12, ofL 88 Fm0)), (m14, .inl (G.2.1, 3, .inl (fun _ => 0))), (aout, .inl (G.2.2.2.2, 1, .inr (.inl ((fun _ => 0))))), (x0, .inr (11, ofL 17 Fx0)), (x3, .inr (7, ofL 5 Fx3)), (x4, .inr (8, ofL 5 Fx4)), (x8, .inr (3, ofL 12 Fx8)), (x31, .inr (1, ofL 10 Fx31)), (x2, .inl (G.2.1, 3, .inl (fun _ => 0)))] := hD
    refine lv_istore (lv' := [(5, .int 1), (0, .ref b), (1, .ref x0), (2, .ref m0), (3, .ref aout), (4, .int 0)]) hx hb dL_law_365 hl (by decide) rfl (fun ls hl => ?_)
    refine lv_aload_n hx hb dL_law_367 rfl (lv_at hl 3 rfl) ?_
    refine lv_aload_n hx hb dL_law_368 rfl (lv_at hl 1 rfl) ?_
    refine lv_iload hx hb dL_law_369 (lv_at hl 5 rfl) ?_
    refine lv_iconst (v := 1) hx hb dL_law_371 (by decide) ?_
    refine lv_iadd hx hb dL_law_372 ?_
    refine k_eqi (y := 1) (by decide) ?_
    refine va_sld hx hb hX hbl hbA hS (k_in (by decide)) dL_law_373 ?_
    refine k_eqi (y := v1) hv1 ?_
    refine k_callVi (wr := [(aout, .inl (G.2.2.2.2, 1, .inr (.inl ((fun _ => 0))))), (x0, .inr (11, ofL 17 Fx0)), (x3, .inr (7, ofL 5 Fx3)), (x4, .inr (8, ofL 5 Fx4)), (x8, .inr (3, ofL 12 Fx8)), (x31, .inr (1, ofL 10 Fx31)), (x2, .inl (G.2.1, 3, .inl (fun _ => 0)))]) (rest := []) li_L_128 C (c_X12_count l G H.size m0 v1 Fm0 m14 e_m0_1 e_m0_2 e_m0_52 e_m0_3 e_m0_4 e_m0_62 e_m0_73 e_m0_18 e_m0_21) (kR rfl) hP hD hS [0, 1] [2, 3, 4, 5, 6, 7, 8] rfl rfl rfl rfl (by decide) 0 12 rfl rfl rfl hl.1 rfl (Nat.le_of_ble_eq_true rfl) dL_law_374 (fun rr84 uu85 H locs hw83 hP hD hS => ?_)
    rcases hw83 with ⟨rfl, rfl, c_86⟩ | ⟨rfl, rfl, c_87, c_88⟩ | ⟨rfl, rfl, c_89, c_90, rfl⟩ | ⟨rfl, rfl, c_91, c_92, rfl⟩ | ⟨rfl, rfl, c_93, c_94, rfl⟩ | ⟨rfl, rfl, c_95, c_96, rfl⟩ | ⟨rfl, rfl, c_97, c_98, rfl⟩ | ⟨rfl, rfl, c_99, c_100, rfl⟩ | ⟨rfl, rfl, c_101, c_102, rfl⟩ | ⟨rfl, rfl, c_103, c_104, rfl⟩ | ⟨rfl, rfl, c_105, c_106, rfl⟩ | ⟨rfl, rfl, c_107, c_108, rfl⟩ | ⟨rfl, rfl, c_109, c_110, rfl⟩ | ⟨rfl, rfl, c_111, c_112, rfl⟩ | ⟨rfl, rfl, c_113, c_114, rfl⟩ | ⟨rfl, rfl, c_115, c_116, rfl⟩ | ⟨rfl, rfl, c_117, c_118, rfl⟩
    ·
      have hP : va_P G.1 vwCl [(aout, .inl (G.2.2.2.2, 1, .inr (.inl ((fun _ => 0))))), (x0, .inr (11, ofL 17 Fx0)), (x3, .inr (7, ofL 5 Fx3)), (x4, .inr (8, ofL 5 Fx4)), (x8, .inr (3, ofL 12 Fx8)), (x31, .inr (1, ofL 10 Fx31)), (x2, .inl (G.2.1, 3, .inl (fun _ => 0))), (m14, .inl (G.2.1, 3, .inl (fun _ => 0))), (m0, .inr (12, ofL 88 (updV (updV Fm0 0 (.int 0)) 0 (.int 1))))] H := hP
      have hD : va_D A [(aout, .inl (G.2.2.2.2, 1, .inr (.inl ((fun _ => 0))))), (x0, .inr (11, ofL 17 Fx0)), (x3, .inr (7, ofL 5 Fx3)), (x4, .inr (8, ofL 5 Fx4)), (x8, .inr (3, ofL 12 Fx8)), (x31, .inr (1, ofL 10 Fx31)), (x2, .inl (G.2.1, 3, .inl (fun _ => 0))), (m14, .inl (G.2.1, 3, .inl (fun _ => 0))), (m0, .inr (12, ofL 88 (updV (updV Fm0 0 (.int 0)) 0 (.int 1))))] := hD
      refine lv_istore (lv' := [(6, .int 0), (5, .int 1), (0, .ref b), (1, .ref x0), (2, .ref m0), (3, .ref aout), (4, .int 0)]) hx hb dL_law_377 hl (by decide) rfl (fun ls hl => ?_)
      refine lv_aload_n hx hb dL_law_379 rfl (lv_at hl 4 rfl) ?_
      refine k_callVi (wr := [(aout, .inl (G.2.2.2.2, 1, .inr (.inl ((fun _ => 0))))), (x0, .inr (11, ofL 17 Fx0)), (x3, .inr (7, ofL 5 Fx3)), (x4, .inr (8, ofL 5 Fx4)), (x8, .inr (3, ofL 12 Fx8)), (x31, .inr (1, ofL 10 Fx31)), (x2, .inl (G.2.1, 3, .inl (fun _ => 0))), (m14, .inl (G.2.1, 3, .inl (fun _ => 0)))]) (rest := []) li_L_118 C (c_X12_thrown l G H.size m0 (updV (updV Fm0 0 (.int 0)) 0 (.int 1)) 1 rfl) (kR rfl) hP hD hS [8] [0, 1, 2, 3, 4, 5, 6, 7] rfl rfl rfl rfl (by decide) 0 12 rfl rfl rfl hl.1 rfl (Nat.le_of_ble_eq_true rfl) dL_law_380 (fun rr120 uu121 H locs hw119 hP hD hS => ?_)
      obtain rfl : rr120 = 1 := hw119
      have hP : va_P G.1 vwCl [(aout, .inl (G.2.2.2.2, 1, .inr (.inl ((fun _ => 0))))), (x0, .inr (11, ofL 17 Fx0)), (x3, .inr (7, ofL 5 Fx3)), (x4, .inr (8, ofL 5 Fx4)), (x8, .inr (3, ofL 12 Fx8)), (x31, .inr (1, ofL 10 Fx31)), (x2, .inl (G.2.1, 3, .inl (fun _ => 0))), (m14, .inl (G.2.1, 3, .inl (fun _ => 0))), (m0, .inr (12, ofL 88 (updV (updV Fm0 0 (.int 0)) 0 (.int 1))))] H := hP
      have hD : va_D A [(aout, .inl (G.2.2.2.2, 1, .inr (.inl ((fun _ => 0))))), (x0, .inr (11, ofL 17 Fx0)), (x3, .inr (7, ofL 5 Fx3)), (x4, .inr (8, ofL 5 Fx4)), (x8, .inr (3, ofL 12 Fx8)), (x31, .inr (1, ofL 10 Fx31)), (x2, .inl (G.2.1, 3, .inl (fun _ => 0))), (m14, .inl (G.2.1, 3, .inl (fun _ => 0))), (m0, .inr (12, ofL 88 (updV (updV Fm0 0 (.int 0)) 0 (.int 1))))] := hD
      refine lv_iload hx hb dL_law_383 (lv_at hl 1 rfl) ?_
      refine lv_icmp_eq (x := 1) (y := 1) (tgt := 390) hx hb dL_law_385 (by decide) (fun c_122 => ?_) (fun c_122 => ?_)
      rotate_left
      · exact absurd (by decide) c_122
      refine lv_iload hx hb dL_law_390 (lv_at hl 1 rfl) ?_
      refine lv_if_ne (x := 1) (tgt := 407) hx hb dL_law_392 (by decide) (fun c_123 => ?_) (fun c_123 => ?_)
      rotate_left
      · exact absurd c_123 (by decide)
      refine lv_goto (tgt := 2265) hx hb dL_law_407 (by decide) ?_
      exact law_end hst C0 hA C hS (lv_sub hl [2, 6] rfl) (Nat.le_of_ble_eq_true rfl) (Nat.le_of_ble_eq_true rfl)
    ·
      have hP : va_P G.1 vwCl [(aout, .inl (G.2.2.2.2, 1, .inr (.inl ((fun _ => 0))))), (x0, .inr (11, ofL 17 Fx0)), (x3, .inr (7, ofL 5 Fx3)), (x4, .inr (8, ofL 5 Fx4)), (x8, .inr (3, ofL 12 Fx8)), (x31, .inr (1, ofL 10 Fx31)), (x2, .inl (G.2.1, 3, .inl (fun _ => 0))), (m14, .inl (G.2.1, 3, .inl (fun _ => 0))), (m0, .inr (12, ofL 88 (updV (updV Fm0 0 (.int 0)) 0 (.int 1))))] H := hP
      have hD : va_D A [(aout, .inl (G.2.2.2.2, 1, .inr (.inl ((fun _ => 0))))), (x0, .inr (11, ofL 17 Fx0)), (x3, .inr (7, ofL 5 Fx3)), (x4, .inr (8, ofL 5 Fx4)), (x8, .inr (3, ofL 12 Fx8)), (x31, .inr (1, ofL 10 Fx31)), (x2, .inl (G.2.1, 3, .inl (fun _ => 0))), (m14, .inl (G.2.1, 3, .inl (fun _ => 0))), (m0, .inr (12, ofL 88 (updV (updV Fm0 0 (.int 0)) 0 (.int 1))))] := hD
      refine lv_istore (lv' := [(6, .int 0), (5, .int 1), (0, .ref b), (1, .ref x0), (2, .ref m0), (3, .ref aout), (4, .int 0)]) hx hb dL_law_377 hl (by decide) rfl (fun ls hl => ?_)
      refine lv_aload_n hx hb dL_law_379 rfl (lv_at hl 4 rfl) ?_
      refine k_callVi (wr := [(aout, .inl (G.2.2.2.2, 1, .inr (.inl ((fun _ => 0))))), (x0, .inr (11, ofL 17 Fx0)), (x3, .inr (7, ofL 5 Fx3)), (x4, .inr (8, ofL 5 Fx4)), (x8, .inr (3, ofL 12 Fx8)), (x31, .inr (1, ofL 10 Fx31)), (x2, .inl (G.2.1, 3, .inl (fun _ => 0))), (m14, .inl (G.2.1, 3, .inl (fun _ => 0)))]) (rest := []) li_L_118 C (c_X12_thrown l G H.size m0 (updV (updV Fm0 0 (.int 0)) 0 (.int 1)) 1 rfl) (kR rfl) hP hD hS [8] [0, 1, 2, 3, 4, 5, 6, 7] rfl rfl rfl rfl (by decide) 0 12 rfl rfl rfl hl.1 rfl (Nat.le_of_ble_eq_true rfl) dL_law_380 (fun rr125 uu126 H locs hw124 hP hD hS => ?_)
      obtain rfl : rr125 = 1 := hw124
      have hP : va_P G.1 vwCl [(aout, .inl (G.2.2.2.2, 1, .inr (.inl ((fun _ => 0))))), (x0, .inr (11, ofL 17 Fx0)), (x3, .inr (7, ofL 5 Fx3)), (x4, .inr (8, ofL 5 Fx4)), (x8, .inr (3, ofL 12 Fx8)), (x31, .inr (1, ofL 10 Fx31)), (x2, .inl (G.2.1, 3, .inl (fun _ => 0))), (m14, .inl (G.2.1, 3, .inl (fun _ => 0))), (m0, .inr (12, ofL 88 (updV (updV Fm0 0 (.int 0)) 0 (.int 1))))] H := hP
      have hD : va_D A [(aout, .inl (G.2.2.2.2, 1, .inr (.inl ((fun _ => 0))))), (x0, .inr (11, ofL 17 Fx0)), (x3, .inr (7, ofL 5 Fx3)), (x4, .inr (8, ofL 5 Fx4)), (x8, .inr (3, ofL 12 Fx8)), (x31, .inr (1, ofL 10 Fx31)), (x2, .inl (G.2.1, 3, .inl (fun _ => 0))), (m14, .inl (G.2.1, 3, .inl (fun _ => 0))), (m0, .inr (12, ofL 88 (updV (updV Fm0 0 (.int 0)) 0 (.int 1))))] := hD
      refine lv_iload hx hb dL_law_383 (lv_at hl 1 rfl) ?_
      refine lv_icmp_eq (x := 1) (y := 1) (tgt := 390) hx hb dL_law_385 (by decide) (fun c_127 => ?_) (fun c_127 => ?_)
      rotate_left
      · exact absurd (by decide) c_127
      refine lv_iload hx hb dL_law_390 (lv_at hl 1 rfl) ?_
      refine lv_if_ne (x := 1) (tgt := 407) hx hb dL_law_392 (by decide) (fun c_128 => ?_) (fun c_128 => ?_)
      rotate_left
      · exact absurd c_128 (by decide)
      refine lv_goto (tgt := 2265) hx hb dL_law_407 (by decide) ?_
      exact law_end hst C0 hA C hS (lv_sub hl [2, 6] rfl) (Nat.le_of_ble_eq_true rfl) (Nat.le_of_ble_eq_true rfl)
    ·
      exact absurd (by decide) c_6
    ·
      exact absurd (by decide) c_6
    ·
      exact absurd (by decide) c_6
    ·
      exact absurd (by decide) c_6
    ·
      exact absurd (by decide) c_6
    ·
      exact absurd (by decide) c_6
    ·
      exact absurd (by decide) c_6
    ·
      exact absurd (by decide) c_6
    ·
      exact absurd (by decide) c_6
    ·
      exact absurd (by decide) c_6
    ·
      exact absurd (by decide) c_6
    ·
      exact absurd (by decide) c_6
    ·
      exact absurd (by decide) c_6
    ·
      exact absurd (by decide) c_6
    ·
      exact absurd (by decide) c_6
  ·
    have hP : va_P G.1 vwCl [(m0, .inr (12, ofL 88 Fm0)), (m14, .inl (G.2.1, 3, .inl (fun _ => 0))), (aout, .inl (G.2.2.2.2, 1, .inr (.inl (vp_updL (fun _ => 0) 0 0)))), (x0, .inr (11, ofL 17 Fx0)), (x3, .inr (7, ofL 5 Fx3)), (x4, .inr (8, ofL 5 Fx4)), (x8, .inr (3, ofL 12 Fx8)), (x31, .inr (1, ofL 10 Fx31)), (x2, .inl (G.2.1, 3, .inl (fun _ => 0)))] H := hP
    have hD : va_D A [(m0, .inr (12, ofL 88 Fm0)), (m14, .inl (G.2.1, 3, .inl (fun _ => 0))), (aout, .inl (G.2.2.2.2, 1, .inr (.inl (vp_updL (fun _ => 0) 0 0)))), (x0, .inr (11, ofL 17 Fx0)), (x3, .inr (7, ofL 5 Fx3)), (x4, .inr (8, ofL 5 Fx4)), (x8, .inr (3, ofL 12 Fx8)), (x31, .inr (1, ofL 10 Fx31)), (x2, .inl (G.2.1, 3, .inl (fun _ => 0)))] := hD
    refine lv_istore (lv' := [(5, .int 0), (0, .ref b), (1, .ref x0), (2, .ref m0), (3, .ref aout), (4, .int 0)]) hx hb dL_law_365 hl (by decide) rfl (fun ls hl => ?_)
    refine lv_aload_n hx hb dL_law_367 rfl (lv_at hl 3 rfl) ?_
    refine lv_aload_n hx hb dL_law_368 rfl (lv_at hl 1 rfl) ?_
    refine lv_iload hx hb dL_law_369 (lv_at hl 5 rfl) ?_
    refine lv_iconst (v := 1) hx hb dL_law_371 (by decide) ?_
    refine lv_iadd hx hb dL_law_372 ?_
    refine k_eqi (y := 1) (by decide) ?_
    refine va_sld hx hb hX hbl hbA hS (k_in (by decide)) dL_law_373 ?_
    refine k_eqi (y := 0) hv1 ?_
    refine k_callVi (wr := [(aout, .inl (G.2.2.2.2, 1, .inr (.inl (vp_updL (fun _ => 0) 0 0)))), (x0, .inr (11, ofL 17 Fx0)), (x3, .inr (7, ofL 5 Fx3)), (x4, .inr (8, ofL 5 Fx4)), (x8, .inr (3, ofL 12 Fx8)), (x31, .inr (1, ofL 10 Fx31)), (x2, .inl (G.2.1, 3, .inl (fun _ => 0)))]) (rest := []) li_L_128 C (c_X12_count l G H.size m0 0 Fm0 m14 e_m0_1 e_m0_2 e_m0_52 e_m0_3 e_m0_4 e_m0_62 e_m0_73 e_m0_18 e_m0_21) (kR rfl) hP hD hS [0, 1] [2, 3, 4, 5, 6, 7, 8] rfl rfl rfl rfl (by decide) 0 12 rfl rfl rfl hl.1 rfl (Nat.le_of_ble_eq_true rfl) dL_law_374 (fun rr130 uu131 H locs hw129 hP hD hS => ?_)
    rcases hw129 with ⟨rfl, rfl, c_132⟩ | ⟨rfl, rfl, c_133, c_134⟩ | ⟨rfl, rfl, c_135, c_136, c_137⟩ | ⟨rfl, rfl, c_138, c_139, c_140⟩ | ⟨rfl, rfl, c_141, c_142, c_143⟩ | ⟨rfl, rfl, c_144, c_145, c_146⟩ | ⟨rfl, rfl, c_147, c_148, c_149⟩ | ⟨rfl, rfl, c_150, c_151, c_152⟩ | ⟨rfl, rfl, c_153, c_154, c_155⟩ | ⟨rfl, rfl, c_156, c_157, c_158⟩ | ⟨rfl, rfl, c_159, c_160, c_161⟩ | ⟨rfl, rfl, c_162, c_163, c_164⟩ | ⟨rfl, rfl, c_165, c_166, c_167⟩ | ⟨rfl, rfl, c_168, c_169, c_170⟩ | ⟨rfl, rfl, c_171, c_172, c_173⟩ | ⟨rfl, rfl, c_174, c_175, c_176⟩ | ⟨rfl, rfl, c_177, c_178, c_179⟩
    ·
      exact absurd c_132 (by decide)
    ·
      exact absurd c_134 (by decide)
    ·
      have hP : va_P G.1 vwCl [(aout, .inl (G.2.2.2.2, 1, .inr (.inl (vp_updL (fun _ => 0) 0 0)))), (x0, .inr (11, ofL 17 Fx0)), (x3, .inr (7, ofL 5 Fx3)), (x4, .inr (8, ofL 5 Fx4)), (x8, .inr (3, ofL 12 Fx8)), (x31, .inr (1, ofL 10 Fx31)), (x2, .inl (G.2.1, 3, .inl (fun _ => 0))), (m14, .inl (G.2.1, 3, .inl (fun _ => 0))), (m0, .inr (12, ofL 88 (updV Fm0 0 (.int 0))))] H := hP
      have hD : va_D A [(aout, .inl (G.2.2.2.2, 1, .inr (.inl (vp_updL (fun _ => 0) 0 0)))), (x0, .inr (11, ofL 17 Fx0)), (x3, .inr (7, ofL 5 Fx3)), (x4, .inr (8, ofL 5 Fx4)), (x8, .inr (3, ofL 12 Fx8)), (x31, .inr (1, ofL 10 Fx31)), (x2, .inl (G.2.1, 3, .inl (fun _ => 0))), (m14, .inl (G.2.1, 3, .inl (fun _ => 0))), (m0, .inr (12, ofL 88 (updV Fm0 0 (.int 0))))] := hD
      refine lv_istore (lv' := [(6, .int 0), (5, .int 0), (0, .ref b), (1, .ref x0), (2, .ref m0), (3, .ref aout), (4, .int 0)]) hx hb dL_law_377 hl (by decide) rfl (fun ls hl => ?_)
      refine lv_aload_n hx hb dL_law_379 rfl (lv_at hl 4 rfl) ?_
      refine k_callVi (wr := [(aout, .inl (G.2.2.2.2, 1, .inr (.inl (vp_updL (fun _ => 0) 0 0)))), (x0, .inr (11, ofL 17 Fx0)), (x3, .inr (7, ofL 5 Fx3)), (x4, .inr (8, ofL 5 Fx4)), (x8, .inr (3, ofL 12 Fx8)), (x31, .inr (1, ofL 10 Fx31)), (x2, .inl (G.2.1, 3, .inl (fun _ => 0))), (m14, .inl (G.2.1, 3, .inl (fun _ => 0)))]) (rest := []) li_L_118 C (c_X12_thrown l G H.size m0 (updV Fm0 0 (.int 0)) 0 rfl) (kR rfl) hP hD hS [8] [0, 1, 2, 3, 4, 5, 6, 7] rfl rfl rfl rfl (by decide) 0 12 rfl rfl rfl hl.1 rfl (Nat.le_of_ble_eq_true rfl) dL_law_380 (fun rr181 uu182 H locs hw180 hP hD hS => ?_)
      obtain rfl : rr181 = 0 := hw180
      have hP : va_P G.1 vwCl [(aout, .inl (G.2.2.2.2, 1, .inr (.inl (vp_updL (fun _ => 0) 0 0)))), (x0, .inr (11, ofL 17 Fx0)), (x3, .inr (7, ofL 5 Fx3)), (x4, .inr (8, ofL 5 Fx4)), (x8, .inr (3, ofL 12 Fx8)), (x31, .inr (1, ofL 10 Fx31)), (x2, .inl (G.2.1, 3, .inl (fun _ => 0))), (m14, .inl (G.2.1, 3, .inl (fun _ => 0))), (m0, .inr (12, ofL 88 (updV Fm0 0 (.int 0))))] H := hP
      have hD : va_D A [(aout, .inl (G.2.2.2.2, 1, .inr (.inl (vp_updL (fun _ => 0) 0 0)))), (x0, .inr (11, ofL 17 Fx0)), (x3, .inr (7, ofL 5 Fx3)), (x4, .inr (8, ofL 5 Fx4)), (x8, .inr (3, ofL 12 Fx8)), (x31, .inr (1, ofL 10 Fx31)), (x2, .inl (G.2.1, 3, .inl (fun _ => 0))), (m14, .inl (G.2.1, 3, .inl (fun _ => 0))), (m0, .inr (12, ofL 88 (updV Fm0 0 (.int 0))))] := hD
      refine lv_iload hx hb dL_law_383 (lv_at hl 1 rfl) ?_
      refine lv_icmp_eq (x := 0) (y := 0) (tgt := 390) hx hb dL_law_385 (by decide) (fun c_183 => ?_) (fun c_183 => ?_)
      rotate_left
      · exact absurd (by decide) c_183
      refine lv_iload hx hb dL_law_390 (lv_at hl 1 rfl) ?_
      refine lv_if_ne (x := 0) (tgt := 407) hx hb dL_law_392 (by decide) (fun c_184 => ?_) (fun c_184 => ?_)
      · exact absurd (by decide) c_184
      refine lv_aload_n hx hb dL_law_395 rfl (lv_at hl 5 rfl) ?_
      refine lv_iconst (v := 0) hx hb dL_law_396 (by decide) ?_
      refine k_lald C hP 0 rfl (k_in (by decide)) dL_law_397 ?_
      refine k_eql (y := 0) rfl ?_
      refine lv_iload hx hb dL_law_398 (lv_at hl 0 rfl) ?_
      refine lv_i2l (v := 0) hx hb dL_law_400 (by decide) ?_
      refine W.lcmp hx hb dL_law_401 ?_
      refine k_eqi (y := 0) (by decide) ?_
      refine lv_if_eq (x := 0) (tgt := 407) hx hb dL_law_402 (by decide) (fun c_185 => ?_) (fun c_185 => ?_)
      rotate_left
      · exact absurd (by decide) c_185
      refine lv_goto (tgt := 2265) hx hb dL_law_407 (by decide) ?_
      exact law_end hst C0 hA C hS (lv_sub hl [2, 6] rfl) (Nat.le_of_ble_eq_true rfl) (Nat.le_of_ble_eq_true rfl)
    ·
      exact absurd c_140 (by decide)
    ·
      exact absurd c_143 (by decide)
    ·
      exact absurd c_146 (by decide)
    ·
      exact absurd c_149 (by decide)
    ·
      exact absurd c_152 (by decide)
    ·
      exact absurd c_155 (by decide)
    ·
      exact absurd c_158 (by decide)
    ·
      exact absurd c_161 (by decide)
    ·
      exact absurd c_164 (by decide)
    ·
      exact absurd c_167 (by decide)
    ·
      exact absurd c_170 (by decide)
    ·
      exact absurd c_173 (by decide)
    ·
      exact absurd c_176 (by decide)
    ·
      exact absurd c_179 (by decide)
  ·
    have hP : va_P G.1 vwCl [(m0, .inr (12, ofL 88 Fm0)), (m14, .inl (G.2.1, 3, .inl (fun _ => 0))), (aout, .inl (G.2.2.2.2, 1, .inr (.inl (vp_updL (fun _ => 0) 0 0)))), (x0, .inr (11, ofL 17 Fx0)), (x3, .inr (7, ofL 5 Fx3)), (x4, .inr (8, ofL 5 Fx4)), (x8, .inr (3, ofL 12 Fx8)), (x31, .inr (1, ofL 10 Fx31)), (x2, .inl (G.2.1, 3, .inl (fun _ => 0)))] H := hP
    have hD : va_D A [(m0, .inr (12, ofL 88 Fm0)), (m14, .inl (G.2.1, 3, .inl (fun _ => 0))), (aout, .inl (G.2.2.2.2, 1, .inr (.inl (vp_updL (fun _ => 0) 0 0)))), (x0, .inr (11, ofL 17 Fx0)), (x3, .inr (7, ofL 5 Fx3)), (x4, .inr (8, ofL 5 Fx4)), (x8, .inr (3, ofL 12 Fx8)), (x31, .inr (1, ofL 10 Fx31)), (x2, .inl (G.2.1, 3, .inl (fun _ => 0)))] := hD
    refine lv_istore (lv' := [(5, .int 0), (0, .ref b), (1, .ref x0), (2, .ref m0), (3, .ref aout), (4, .int 0)]) hx hb dL_law_365 hl (by decide) rfl (fun ls hl => ?_)
    refine lv_aload_n hx hb dL_law_367 rfl (lv_at hl 3 rfl) ?_
    refine lv_aload_n hx hb dL_law_368 rfl (lv_at hl 1 rfl) ?_
    refine lv_iload hx hb dL_law_369 (lv_at hl 5 rfl) ?_
    refine lv_iconst (v := 1) hx hb dL_law_371 (by decide) ?_
    refine lv_iadd hx hb dL_law_372 ?_
    refine k_eqi (y := 1) (by decide) ?_
    refine va_sld hx hb hX hbl hbA hS (k_in (by decide)) dL_law_373 ?_
    refine k_eqi (y := 1) hv1 ?_
    refine k_callVi (wr := [(aout, .inl (G.2.2.2.2, 1, .inr (.inl (vp_updL (fun _ => 0) 0 0)))), (x0, .inr (11, ofL 17 Fx0)), (x3, .inr (7, ofL 5 Fx3)), (x4, .inr (8, ofL 5 Fx4)), (x8, .inr (3, ofL 12 Fx8)), (x31, .inr (1, ofL 10 Fx31)), (x2, .inl (G.2.1, 3, .inl (fun _ => 0)))]) (rest := []) li_L_128 C (c_X12_count l G H.size m0 1 Fm0 m14 e_m0_1 e_m0_2 e_m0_52 e_m0_3 e_m0_4 e_m0_62 e_m0_73 e_m0_18 e_m0_21) (kR rfl) hP hD hS [0, 1] [2, 3, 4, 5, 6, 7, 8] rfl rfl rfl rfl (by decide) 0 12 rfl rfl rfl hl.1 rfl (Nat.le_of_ble_eq_true rfl) dL_law_374 (fun rr187 uu188 H locs hw186 hP hD hS => ?_)
    rcases hw186 with ⟨rfl, rfl, c_189⟩ | ⟨rfl, rfl, c_190, c_191⟩ | ⟨rfl, rfl, c_192, c_193, c_194⟩ | ⟨rfl, rfl, c_195, c_196, c_197⟩ | ⟨rfl, rfl, c_198, c_199, c_200⟩ | ⟨rfl, rfl, c_201, c_202, c_203⟩ | ⟨rfl, rfl, c_204, c_205, c_206⟩ | ⟨rfl, rfl, c_207, c_208, c_209⟩ | ⟨rfl, rfl, c_210, c_211, c_212⟩ | ⟨rfl, rfl, c_213, c_214, c_215⟩ | ⟨rfl, rfl, c_216, c_217, c_218⟩ | ⟨rfl, rfl, c_219, c_220, c_221⟩ | ⟨rfl, rfl, c_222, c_223, c_224⟩ | ⟨rfl, rfl, c_225, c_226, c_227⟩ | ⟨rfl, rfl, c_228, c_229, c_230⟩ | ⟨rfl, rfl, c_231, c_232, c_233⟩ | ⟨rfl, rfl, c_234, c_235, c_236⟩
    ·
      exact absurd c_189 (by decide)
    ·
      exact absurd c_191 (by decide)
    ·
      exact absurd c_194 (by decide)
    ·
      have hP : va_P G.1 vwCl [(aout, .inl (G.2.2.2.2, 1, .inr (.inl (vp_updL (fun _ => 0) 0 0)))), (x0, .inr (11, ofL 17 Fx0)), (x3, .inr (7, ofL 5 Fx3)), (x4, .inr (8, ofL 5 Fx4)), (x8, .inr (3, ofL 12 Fx8)), (x31, .inr (1, ofL 10 Fx31)), (x2, .inl (G.2.1, 3, .inl (fun _ => 0))), (m14, .inl (G.2.1, 3, .inl (fun _ => 0))), (m0, .inr (12, ofL 88 (updV Fm0 0 (.int 0))))] H := hP
      have hD : va_D A [(aout, .inl (G.2.2.2.2, 1, .inr (.inl (vp_updL (fun _ => 0) 0 0)))), (x0, .inr (11, ofL 17 Fx0)), (x3, .inr (7, ofL 5 Fx3)), (x4, .inr (8, ofL 5 Fx4)), (x8, .inr (3, ofL 12 Fx8)), (x31, .inr (1, ofL 10 Fx31)), (x2, .inl (G.2.1, 3, .inl (fun _ => 0))), (m14, .inl (G.2.1, 3, .inl (fun _ => 0))), (m0, .inr (12, ofL 88 (updV Fm0 0 (.int 0))))] := hD
      refine lv_istore (lv' := [(6, .int 0), (5, .int 0), (0, .ref b), (1, .ref x0), (2, .ref m0), (3, .ref aout), (4, .int 0)]) hx hb dL_law_377 hl (by decide) rfl (fun ls hl => ?_)
      refine lv_aload_n hx hb dL_law_379 rfl (lv_at hl 4 rfl) ?_
      refine k_callVi (wr := [(aout, .inl (G.2.2.2.2, 1, .inr (.inl (vp_updL (fun _ => 0) 0 0)))), (x0, .inr (11, ofL 17 Fx0)), (x3, .inr (7, ofL 5 Fx3)), (x4, .inr (8, ofL 5 Fx4)), (x8, .inr (3, ofL 12 Fx8)), (x31, .inr (1, ofL 10 Fx31)), (x2, .inl (G.2.1, 3, .inl (fun _ => 0))), (m14, .inl (G.2.1, 3, .inl (fun _ => 0)))]) (rest := []) li_L_118 C (c_X12_thrown l G H.size m0 (updV Fm0 0 (.int 0)) 0 rfl) (kR rfl) hP hD hS [8] [0, 1, 2, 3, 4, 5, 6, 7] rfl rfl rfl rfl (by decide) 0 12 rfl rfl rfl hl.1 rfl (Nat.le_of_ble_eq_true rfl) dL_law_380 (fun rr238 uu239 H locs hw237 hP hD hS => ?_)
      obtain rfl : rr238 = 0 := hw237
      have hP : va_P G.1 vwCl [(aout, .inl (G.2.2.2.2, 1, .inr (.inl (vp_updL (fun _ => 0) 0 0)))), (x0, .inr (11, ofL 17 Fx0)), (x3, .inr (7, ofL 5 Fx3)), (x4, .inr (8, ofL 5 Fx4)), (x8, .inr (3, ofL 12 Fx8)), (x31, .inr (1, ofL 10 Fx31)), (x2, .inl (G.2.1, 3, .inl (fun _ => 0))), (m14, .inl (G.2.1, 3, .inl (fun _ => 0))), (m0, .inr (12, ofL 88 (updV Fm0 0 (.int 0))))] H := hP
      have hD : va_D A [(aout, .inl (G.2.2.2.2, 1, .inr (.inl (vp_updL (fun _ => 0) 0 0)))), (x0, .inr (11, ofL 17 Fx0)), (x3, .inr (7, ofL 5 Fx3)), (x4, .inr (8, ofL 5 Fx4)), (x8, .inr (3, ofL 12 Fx8)), (x31, .inr (1, ofL 10 Fx31)), (x2, .inl (G.2.1, 3, .inl (fun _ => 0))), (m14, .inl (G.2.1, 3, .inl (fun _ => 0))), (m0, .inr (12, ofL 88 (updV Fm0 0 (.int 0))))] := hD
      refine lv_iload hx hb dL_law_383 (lv_at hl 1 rfl) ?_
      refine lv_icmp_eq (x := 0) (y := 0) (tgt := 390) hx hb dL_law_385 (by decide) (fun c_240 => ?_) (fun c_240 => ?_)
      rotate_left
      · exact absurd (by decide) c_240
      refine lv_iload hx hb dL_law_390 (lv_at hl 1 rfl) ?_
      refine lv_if_ne (x := 0) (tgt := 407) hx hb dL_law_392 (by decide) (fun c_241 => ?_) (fun c_241 => ?_)
      · exact absurd (by decide) c_241
      refine lv_aload_n hx hb dL_law_395 rfl (lv_at hl 5 rfl) ?_
      refine lv_iconst (v := 0) hx hb dL_law_396 (by decide) ?_
      refine k_lald C hP 0 rfl (k_in (by decide)) dL_law_397 ?_
      refine k_eql (y := 0) rfl ?_
      refine lv_iload hx hb dL_law_398 (lv_at hl 0 rfl) ?_
      refine lv_i2l (v := 0) hx hb dL_law_400 (by decide) ?_
      refine W.lcmp hx hb dL_law_401 ?_
      refine k_eqi (y := 0) (by decide) ?_
      refine lv_if_eq (x := 0) (tgt := 407) hx hb dL_law_402 (by decide) (fun c_242 => ?_) (fun c_242 => ?_)
      rotate_left
      · exact absurd (by decide) c_242
      refine lv_goto (tgt := 2265) hx hb dL_law_407 (by decide) ?_
      exact law_end hst C0 hA C hS (lv_sub hl [2, 6] rfl) (Nat.le_of_ble_eq_true rfl) (Nat.le_of_ble_eq_true rfl)
    ·
      exact absurd c_200 (by decide)
    ·
      exact absurd c_203 (by decide)
    ·
      exact absurd c_206 (by decide)
    ·
      exact absurd c_209 (by decide)
    ·
      exact absurd c_212 (by decide)
    ·
      exact absurd c_215 (by decide)
    ·
      exact absurd c_218 (by decide)
    ·
      exact absurd c_221 (by decide)
    ·
      exact absurd c_224 (by decide)
    ·
      exact absurd c_227 (by decide)
    ·
      exact absurd c_230 (by decide)
    ·
      exact absurd c_233 (by decide)
    ·
      exact absurd c_236 (by decide)
  ·
    have hP : va_P G.1 vwCl [(m0, .inr (12, ofL 88 Fm0)), (m14, .inl (G.2.1, 3, .inl (fun _ => 0))), (aout, .inl (G.2.2.2.2, 1, .inr (.inl (vp_updL (fun _ => 0) 0 (-1))))), (x0, .inr (11, ofL 17 Fx0)), (x3, .inr (7, ofL 5 Fx3)), (x4, .inr (8, ofL 5 Fx4)), (x8, .inr (3, ofL 12 Fx8)), (x31, .inr (1, ofL 10 Fx31)), (x2, .inl (G.2.1, 3, .inl (fun _ => 0)))] H := hP
    have hD : va_D A [(m0, .inr (12, ofL 88 Fm0)), (m14, .inl (G.2.1, 3, .inl (fun _ => 0))), (aout, .inl (G.2.2.2.2, 1, .inr (.inl (vp_updL (fun _ => 0) 0 (-1))))), (x0, .inr (11, ofL 17 Fx0)), (x3, .inr (7, ofL 5 Fx3)), (x4, .inr (8, ofL 5 Fx4)), (x8, .inr (3, ofL 12 Fx8)), (x31, .inr (1, ofL 10 Fx31)), (x2, .inl (G.2.1, 3, .inl (fun _ => 0)))] := hD
    refine lv_istore (lv' := [(5, .int 0), (0, .ref b), (1, .ref x0), (2, .ref m0), (3, .ref aout), (4, .int 0)]) hx hb dL_law_365 hl (by decide) rfl (fun ls hl => ?_)
    refine lv_aload_n hx hb dL_law_367 rfl (lv_at hl 3 rfl) ?_
    refine lv_aload_n hx hb dL_law_368 rfl (lv_at hl 1 rfl) ?_
    refine lv_iload hx hb dL_law_369 (lv_at hl 5 rfl) ?_
    refine lv_iconst (v := 1) hx hb dL_law_371 (by decide) ?_
    refine lv_iadd hx hb dL_law_372 ?_
    refine k_eqi (y := 1) (by decide) ?_
    refine va_sld hx hb hX hbl hbA hS (k_in (by decide)) dL_law_373 ?_
    refine k_eqi (y := 2) hv1 ?_
    refine k_callVi (wr := [(aout, .inl (G.2.2.2.2, 1, .inr (.inl (vp_updL (fun _ => 0) 0 (-1))))), (x0, .inr (11, ofL 17 Fx0)), (x3, .inr (7, ofL 5 Fx3)), (x4, .inr (8, ofL 5 Fx4)), (x8, .inr (3, ofL 12 Fx8)), (x31, .inr (1, ofL 10 Fx31)), (x2, .inl (G.2.1, 3, .inl (fun _ => 0)))]) (rest := []) li_L_128 C (c_X12_count l G H.size m0 2 Fm0 m14 e_m0_1 e_m0_2 e_m0_52 e_m0_3 e_m0_4 e_m0_62 e_m0_73 e_m0_18 e_m0_21) (kR rfl) hP hD hS [0, 1] [2, 3, 4, 5, 6, 7, 8] rfl rfl rfl rfl (by decide) 0 12 rfl rfl rfl hl.1 rfl (Nat.le_of_ble_eq_true rfl) dL_law_374 (fun rr244 uu245 H locs hw243 hP hD hS => ?_)
    rcases hw243 with ⟨rfl, rfl, c_246⟩ | ⟨rfl, rfl, c_247, c_248⟩ | ⟨rfl, rfl, c_249, c_250, c_251⟩ | ⟨rfl, rfl, c_252, c_253, c_254⟩ | ⟨rfl, rfl, c_255, c_256, c_257⟩ | ⟨rfl, rfl, c_258, c_259, c_260⟩ | ⟨rfl, rfl, c_261, c_262, c_263⟩ | ⟨rfl, rfl, c_264, c_265, c_266⟩ | ⟨rfl, rfl, c_267, c_268, c_269⟩ | ⟨rfl, rfl, c_270, c_271, c_272⟩ | ⟨rfl, rfl, c_273, c_274, c_275⟩ | ⟨rfl, rfl, c_276, c_277, c_278⟩ | ⟨rfl, rfl, c_279, c_280, c_281⟩ | ⟨rfl, rfl, c_282, c_283, c_284⟩ | ⟨rfl, rfl, c_285, c_286, c_287⟩ | ⟨rfl, rfl, c_288, c_289, c_290⟩ | ⟨rfl, rfl, c_291, c_292, c_293⟩
    ·
      exact absurd c_246 (by decide)
    ·
      exact absurd c_248 (by decide)
    ·
      exact absurd c_251 (by decide)
    ·
      exact absurd c_254 (by decide)
    ·
      have hP : va_P G.1 vwCl [(aout, .inl (G.2.2.2.2, 1, .inr (.inl (vp_updL (fun _ => 0) 0 (-1))))), (x0, .inr (11, ofL 17 Fx0)), (x3, .inr (7, ofL 5 Fx3)), (x4, .inr (8, ofL 5 Fx4)), (x8, .inr (3, ofL 12 Fx8)), (x31, .inr (1, ofL 10 Fx31)), (x2, .inl (G.2.1, 3, .inl (fun _ => 0))), (m14, .inl (G.2.1, 3, .inl (fun _ => 0))), (m0, .inr (12, ofL 88 (updV Fm0 0 (.int 0))))] H := hP
      have hD : va_D A [(aout, .inl (G.2.2.2.2, 1, .inr (.inl (vp_updL (fun _ => 0) 0 (-1))))), (x0, .inr (11, ofL 17 Fx0)), (x3, .inr (7, ofL 5 Fx3)), (x4, .inr (8, ofL 5 Fx4)), (x8, .inr (3, ofL 12 Fx8)), (x31, .inr (1, ofL 10 Fx31)), (x2, .inl (G.2.1, 3, .inl (fun _ => 0))), (m14, .inl (G.2.1, 3, .inl (fun _ => 0))), (m0, .inr (12, ofL 88 (updV Fm0 0 (.int 0))))] := hD
      refine lv_istore (lv' := [(6, .int (-1)), (5, .int 0), (0, .ref b), (1, .ref x0), (2, .ref m0), (3, .ref aout), (4, .int 0)]) hx hb dL_law_377 hl (by decide) rfl (fun ls hl => ?_)
      refine lv_aload_n hx hb dL_law_379 rfl (lv_at hl 4 rfl) ?_
      refine k_callVi (wr := [(aout, .inl (G.2.2.2.2, 1, .inr (.inl (vp_updL (fun _ => 0) 0 (-1))))), (x0, .inr (11, ofL 17 Fx0)), (x3, .inr (7, ofL 5 Fx3)), (x4, .inr (8, ofL 5 Fx4)), (x8, .inr (3, ofL 12 Fx8)), (x31, .inr (1, ofL 10 Fx31)), (x2, .inl (G.2.1, 3, .inl (fun _ => 0))), (m14, .inl (G.2.1, 3, .inl (fun _ => 0)))]) (rest := []) li_L_118 C (c_X12_thrown l G H.size m0 (updV Fm0 0 (.int 0)) 0 rfl) (kR rfl) hP hD hS [8] [0, 1, 2, 3, 4, 5, 6, 7] rfl rfl rfl rfl (by decide) 0 12 rfl rfl rfl hl.1 rfl (Nat.le_of_ble_eq_true rfl) dL_law_380 (fun rr295 uu296 H locs hw294 hP hD hS => ?_)
      obtain rfl : rr295 = 0 := hw294
      have hP : va_P G.1 vwCl [(aout, .inl (G.2.2.2.2, 1, .inr (.inl (vp_updL (fun _ => 0) 0 (-1))))), (x0, .inr (11, ofL 17 Fx0)), (x3, .inr (7, ofL 5 Fx3)), (x4, .inr (8, ofL 5 Fx4)), (x8, .inr (3, ofL 12 Fx8)), (x31, .inr (1, ofL 10 Fx31)), (x2, .inl (G.2.1, 3, .inl (fun _ => 0))), (m14, .inl (G.2.1, 3, .inl (fun _ => 0))), (m0, .inr (12, ofL 88 (updV Fm0 0 (.int 0))))] H := hP
      have hD : va_D A [(aout, .inl (G.2.2.2.2, 1, .inr (.inl (vp_updL (fun _ => 0) 0 (-1))))), (x0, .inr (11, ofL 17 Fx0)), (x3, .inr (7, ofL 5 Fx3)), (x4, .inr (8, ofL 5 Fx4)), (x8, .inr (3, ofL 12 Fx8)), (x31, .inr (1, ofL 10 Fx31)), (x2, .inl (G.2.1, 3, .inl (fun _ => 0))), (m14, .inl (G.2.1, 3, .inl (fun _ => 0))), (m0, .inr (12, ofL 88 (updV Fm0 0 (.int 0))))] := hD
      refine lv_iload hx hb dL_law_383 (lv_at hl 1 rfl) ?_
      refine lv_icmp_eq (x := 0) (y := 0) (tgt := 390) hx hb dL_law_385 (by decide) (fun c_297 => ?_) (fun c_297 => ?_)
      rotate_left
      · exact absurd (by decide) c_297
      refine lv_iload hx hb dL_law_390 (lv_at hl 1 rfl) ?_
      refine lv_if_ne (x := 0) (tgt := 407) hx hb dL_law_392 (by decide) (fun c_298 => ?_) (fun c_298 => ?_)
      · exact absurd (by decide) c_298
      refine lv_aload_n hx hb dL_law_395 rfl (lv_at hl 5 rfl) ?_
      refine lv_iconst (v := 0) hx hb dL_law_396 (by decide) ?_
      refine k_lald C hP 0 rfl (k_in (by decide)) dL_law_397 ?_
      refine k_eql (y := -1) rfl ?_
      refine lv_iload hx hb dL_law_398 (lv_at hl 0 rfl) ?_
      refine lv_i2l (v := -1) hx hb dL_law_400 (by decide) ?_
      refine W.lcmp hx hb dL_law_401 ?_
      refine k_eqi (y := 0) (by decide) ?_
      refine lv_if_eq (x := 0) (tgt := 407) hx hb dL_law_402 (by decide) (fun c_299 => ?_) (fun c_299 => ?_)
      rotate_left
      · exact absurd (by decide) c_299
      refine lv_goto (tgt := 2265) hx hb dL_law_407 (by decide) ?_
      exact law_end hst C0 hA C hS (lv_sub hl [2, 6] rfl) (Nat.le_of_ble_eq_true rfl) (Nat.le_of_ble_eq_true rfl)
    ·
      exact absurd c_260 (by decide)
    ·
      exact absurd c_263 (by decide)
    ·
      exact absurd c_266 (by decide)
    ·
      exact absurd c_269 (by decide)
    ·
      exact absurd c_272 (by decide)
    ·
      exact absurd c_275 (by decide)
    ·
      exact absurd c_278 (by decide)
    ·
      exact absurd c_281 (by decide)
    ·
      exact absurd c_284 (by decide)
    ·
      exact absurd c_287 (by decide)
    ·
      exact absurd c_290 (by decide)
    ·
      exact absurd c_293 (by decide)
  ·
    have hP : va_P G.1 vwCl [(m0, .inr (12, ofL 88 Fm0)), (m14, .inl (G.2.1, 3, .inl (fun _ => 0))), (aout, .inl (G.2.2.2.2, 1, .inr (.inl (vp_updL (fun _ => 0) 0 1)))), (x0, .inr (11, ofL 17 Fx0)), (x3, .inr (7, ofL 5 Fx3)), (x4, .inr (8, ofL 5 Fx4)), (x8, .inr (3, ofL 12 Fx8)), (x31, .inr (1, ofL 10 Fx31)), (x2, .inl (G.2.1, 3, .inl (fun _ => 0)))] H := hP
    have hD : va_D A [(m0, .inr (12, ofL 88 Fm0)), (m14, .inl (G.2.1, 3, .inl (fun _ => 0))), (aout, .inl (G.2.2.2.2, 1, .inr (.inl (vp_updL (fun _ => 0) 0 1)))), (x0, .inr (11, ofL 17 Fx0)), (x3, .inr (7, ofL 5 Fx3)), (x4, .inr (8, ofL 5 Fx4)), (x8, .inr (3, ofL 12 Fx8)), (x31, .inr (1, ofL 10 Fx31)), (x2, .inl (G.2.1, 3, .inl (fun _ => 0)))] := hD
    refine lv_istore (lv' := [(5, .int 0), (0, .ref b), (1, .ref x0), (2, .ref m0), (3, .ref aout), (4, .int 0)]) hx hb dL_law_365 hl (by decide) rfl (fun ls hl => ?_)
    refine lv_aload_n hx hb dL_law_367 rfl (lv_at hl 3 rfl) ?_
    refine lv_aload_n hx hb dL_law_368 rfl (lv_at hl 1 rfl) ?_
    refine lv_iload hx hb dL_law_369 (lv_at hl 5 rfl) ?_
    refine lv_iconst (v := 1) hx hb dL_law_371 (by decide) ?_
    refine lv_iadd hx hb dL_law_372 ?_
    refine k_eqi (y := 1) (by decide) ?_
    refine va_sld hx hb hX hbl hbA hS (k_in (by decide)) dL_law_373 ?_
    refine k_eqi (y := 3) hv1 ?_
    refine k_callVi (wr := [(aout, .inl (G.2.2.2.2, 1, .inr (.inl (vp_updL (fun _ => 0) 0 1)))), (x0, .inr (11, ofL 17 Fx0)), (x3, .inr (7, ofL 5 Fx3)), (x4, .inr (8, ofL 5 Fx4)), (x8, .inr (3, ofL 12 Fx8)), (x31, .inr (1, ofL 10 Fx31)), (x2, .inl (G.2.1, 3, .inl (fun _ => 0)))]) (rest := []) li_L_128 C (c_X12_count l G H.size m0 3 Fm0 m14 e_m0_1 e_m0_2 e_m0_52 e_m0_3 e_m0_4 e_m0_62 e_m0_73 e_m0_18 e_m0_21) (kR rfl) hP hD hS [0, 1] [2, 3, 4, 5, 6, 7, 8] rfl rfl rfl rfl (by decide) 0 12 rfl rfl rfl hl.1 rfl (Nat.le_of_ble_eq_true rfl) dL_law_374 (fun rr301 uu302 H locs hw300 hP hD hS => ?_)
    rcases hw300 with ⟨rfl, rfl, c_303⟩ | ⟨rfl, rfl, c_304, c_305⟩ | ⟨rfl, rfl, c_306, c_307, c_308⟩ | ⟨rfl, rfl, c_309, c_310, c_311⟩ | ⟨rfl, rfl, c_312, c_313, c_314⟩ | ⟨rfl, rfl, c_315, c_316, c_317⟩ | ⟨rfl, rfl, c_318, c_319, c_320⟩ | ⟨rfl, rfl, c_321, c_322, c_323⟩ | ⟨rfl, rfl, c_324, c_325, c_326⟩ | ⟨rfl, rfl, c_327, c_328, c_329⟩ | ⟨rfl, rfl, c_330, c_331, c_332⟩ | ⟨rfl, rfl, c_333, c_334, c_335⟩ | ⟨rfl, rfl, c_336, c_337, c_338⟩ | ⟨rfl, rfl, c_339, c_340, c_341⟩ | ⟨rfl, rfl, c_342, c_343, c_344⟩ | ⟨rfl, rfl, c_345, c_346, c_347⟩ | ⟨rfl, rfl, c_348, c_349, c_350⟩
    ·
      exact absurd c_303 (by decide)
    ·
      exact absurd c_305 (by decide)
    ·
      exact absurd c_308 (by decide)
    ·
      exact absurd c_311 (by decide)
    ·
      exact absurd c_314 (by decide)
    ·
      have hP : va_P G.1 vwCl [(aout, .inl (G.2.2.2.2, 1, .inr (.inl (vp_updL (fun _ => 0) 0 1)))), (x0, .inr (11, ofL 17 Fx0)), (x3, .inr (7, ofL 5 Fx3)), (x4, .inr (8, ofL 5 Fx4)), (x8, .inr (3, ofL 12 Fx8)), (x31, .inr (1, ofL 10 Fx31)), (x2, .inl (G.2.1, 3, .inl (fun _ => 0))), (m14, .inl (G.2.1, 3, .inl (fun _ => 0))), (m0, .inr (12, ofL 88 (updV Fm0 0 (.int 0))))] H := hP
      have hD : va_D A [(aout, .inl (G.2.2.2.2, 1, .inr (.inl (vp_updL (fun _ => 0) 0 1)))), (x0, .inr (11, ofL 17 Fx0)), (x3, .inr (7, ofL 5 Fx3)), (x4, .inr (8, ofL 5 Fx4)), (x8, .inr (3, ofL 12 Fx8)), (x31, .inr (1, ofL 10 Fx31)), (x2, .inl (G.2.1, 3, .inl (fun _ => 0))), (m14, .inl (G.2.1, 3, .inl (fun _ => 0))), (m0, .inr (12, ofL 88 (updV Fm0 0 (.int 0))))] := hD
      refine lv_istore (lv' := [(6, .int 1), (5, .int 0), (0, .ref b), (1, .ref x0), (2, .ref m0), (3, .ref aout), (4, .int 0)]) hx hb dL_law_377 hl (by decide) rfl (fun ls hl => ?_)
      refine lv_aload_n hx hb dL_law_379 rfl (lv_at hl 4 rfl) ?_
      refine k_callVi (wr := [(aout, .inl (G.2.2.2.2, 1, .inr (.inl (vp_updL (fun _ => 0) 0 1)))), (x0, .inr (11, ofL 17 Fx0)), (x3, .inr (7, ofL 5 Fx3)), (x4, .inr (8, ofL 5 Fx4)), (x8, .inr (3, ofL 12 Fx8)), (x31, .inr (1, ofL 10 Fx31)), (x2, .inl (G.2.1, 3, .inl (fun _ => 0))), (m14, .inl (G.2.1, 3, .inl (fun _ => 0)))]) (rest := []) li_L_118 C (c_X12_thrown l G H.size m0 (updV Fm0 0 (.int 0)) 0 rfl) (kR rfl) hP hD hS [8] [0, 1, 2, 3, 4, 5, 6, 7] rfl rfl rfl rfl (by decide) 0 12 rfl rfl rfl hl.1 rfl (Nat.le_of_ble_eq_true rfl) dL_law_380 (fun rr352 uu353 H locs hw351 hP hD hS => ?_)
      obtain rfl : rr352 = 0 := hw351
      have hP : va_P G.1 vwCl [(aout, .inl (G.2.2.2.2, 1, .inr (.inl (vp_updL (fun _ => 0) 0 1)))), (x0, .inr (11, ofL 17 Fx0)), (x3, .inr (7, ofL 5 Fx3)), (x4, .inr (8, ofL 5 Fx4)), (x8, .inr (3, ofL 12 Fx8)), (x31, .inr (1, ofL 10 Fx31)), (x2, .inl (G.2.1, 3, .inl (fun _ => 0))), (m14, .inl (G.2.1, 3, .inl (fun _ => 0))), (m0, .inr (12, ofL 88 (updV Fm0 0 (.int 0))))] H := hP
      have hD : va_D A [(aout, .inl (G.2.2.2.2, 1, .inr (.inl (vp_updL (fun _ => 0) 0 1)))), (x0, .inr (11, ofL 17 Fx0)), (x3, .inr (7, ofL 5 Fx3)), (x4, .inr (8, ofL 5 Fx4)), (x8, .inr (3, ofL 12 Fx8)), (x31, .inr (1, ofL 10 Fx31)), (x2, .inl (G.2.1, 3, .inl (fun _ => 0))), (m14, .inl (G.2.1, 3, .inl (fun _ => 0))), (m0, .inr (12, ofL 88 (updV Fm0 0 (.int 0))))] := hD
      refine lv_iload hx hb dL_law_383 (lv_at hl 1 rfl) ?_
      refine lv_icmp_eq (x := 0) (y := 0) (tgt := 390) hx hb dL_law_385 (by decide) (fun c_354 => ?_) (fun c_354 => ?_)
      rotate_left
      · exact absurd (by decide) c_354
      refine lv_iload hx hb dL_law_390 (lv_at hl 1 rfl) ?_
      refine lv_if_ne (x := 0) (tgt := 407) hx hb dL_law_392 (by decide) (fun c_355 => ?_) (fun c_355 => ?_)
      · exact absurd (by decide) c_355
      refine lv_aload_n hx hb dL_law_395 rfl (lv_at hl 5 rfl) ?_
      refine lv_iconst (v := 0) hx hb dL_law_396 (by decide) ?_
      refine k_lald C hP 0 rfl (k_in (by decide)) dL_law_397 ?_
      refine k_eql (y := 1) rfl ?_
      refine lv_iload hx hb dL_law_398 (lv_at hl 0 rfl) ?_
      refine lv_i2l (v := 1) hx hb dL_law_400 (by decide) ?_
      refine W.lcmp hx hb dL_law_401 ?_
      refine k_eqi (y := 0) (by decide) ?_
      refine lv_if_eq (x := 0) (tgt := 407) hx hb dL_law_402 (by decide) (fun c_356 => ?_) (fun c_356 => ?_)
      rotate_left
      · exact absurd (by decide) c_356
      refine lv_goto (tgt := 2265) hx hb dL_law_407 (by decide) ?_
      exact law_end hst C0 hA C hS (lv_sub hl [2, 6] rfl) (Nat.le_of_ble_eq_true rfl) (Nat.le_of_ble_eq_true rfl)
    ·
      exact absurd c_320 (by decide)
    ·
      exact absurd c_323 (by decide)
    ·
      exact absurd c_326 (by decide)
    ·
      exact absurd c_329 (by decide)
    ·
      exact absurd c_332 (by decide)
    ·
      exact absurd c_335 (by decide)
    ·
      exact absurd c_338 (by decide)
    ·
      exact absurd c_341 (by decide)
    ·
      exact absurd c_344 (by decide)
    ·
      exact absurd c_347 (by decide)
    ·
      exact absurd c_350 (by decide)
  ·
    have hP : va_P G.1 vwCl [(m0, .inr (12, ofL 88 Fm0)), (m14, .inl (G.2.1, 3, .inl (fun _ => 0))), (aout, .inl (G.2.2.2.2, 1, .inr (.inl (vp_updL (fun _ => 0) 0 99)))), (x0, .inr (11, ofL 17 Fx0)), (x3, .inr (7, ofL 5 Fx3)), (x4, .inr (8, ofL 5 Fx4)), (x8, .inr (3, ofL 12 Fx8)), (x31, .inr (1, ofL 10 Fx31)), (x2, .inl (G.2.1, 3, .inl (fun _ => 0)))] H := hP
    have hD : va_D A [(m0, .inr (12, ofL 88 Fm0)), (m14, .inl (G.2.1, 3, .inl (fun _ => 0))), (aout, .inl (G.2.2.2.2, 1, .inr (.inl (vp_updL (fun _ => 0) 0 99)))), (x0, .inr (11, ofL 17 Fx0)), (x3, .inr (7, ofL 5 Fx3)), (x4, .inr (8, ofL 5 Fx4)), (x8, .inr (3, ofL 12 Fx8)), (x31, .inr (1, ofL 10 Fx31)), (x2, .inl (G.2.1, 3, .inl (fun _ => 0)))] := hD
    refine lv_istore (lv' := [(5, .int 0), (0, .ref b), (1, .ref x0), (2, .ref m0), (3, .ref aout), (4, .int 0)]) hx hb dL_law_365 hl (by decide) rfl (fun ls hl => ?_)
    refine lv_aload_n hx hb dL_law_367 rfl (lv_at hl 3 rfl) ?_
    refine lv_aload_n hx hb dL_law_368 rfl (lv_at hl 1 rfl) ?_
    refine lv_iload hx hb dL_law_369 (lv_at hl 5 rfl) ?_
    refine lv_iconst (v := 1) hx hb dL_law_371 (by decide) ?_
    refine lv_iadd hx hb dL_law_372 ?_
    refine k_eqi (y := 1) (by decide) ?_
    refine va_sld hx hb hX hbl hbA hS (k_in (by decide)) dL_law_373 ?_
    refine k_eqi (y := 4) hv1 ?_
    refine k_callVi (wr := [(aout, .inl (G.2.2.2.2, 1, .inr (.inl (vp_updL (fun _ => 0) 0 99)))), (x0, .inr (11, ofL 17 Fx0)), (x3, .inr (7, ofL 5 Fx3)), (x4, .inr (8, ofL 5 Fx4)), (x8, .inr (3, ofL 12 Fx8)), (x31, .inr (1, ofL 10 Fx31)), (x2, .inl (G.2.1, 3, .inl (fun _ => 0)))]) (rest := []) li_L_128 C (c_X12_count l G H.size m0 4 Fm0 m14 e_m0_1 e_m0_2 e_m0_52 e_m0_3 e_m0_4 e_m0_62 e_m0_73 e_m0_18 e_m0_21) (kR rfl) hP hD hS [0, 1] [2, 3, 4, 5, 6, 7, 8] rfl rfl rfl rfl (by decide) 0 12 rfl rfl rfl hl.1 rfl (Nat.le_of_ble_eq_true rfl) dL_law_374 (fun rr358 uu359 H locs hw357 hP hD hS => ?_)
    rcases hw357 with ⟨rfl, rfl, c_360⟩ | ⟨rfl, rfl, c_361, c_362⟩ | ⟨rfl, rfl, c_363, c_364, c_365⟩ | ⟨rfl, rfl, c_366, c_367, c_368⟩ | ⟨rfl, rfl, c_369, c_370, c_371⟩ | ⟨rfl, rfl, c_372, c_373, c_374⟩ | ⟨rfl, rfl, c_375, c_376, c_377⟩ | ⟨rfl, rfl, c_378, c_379, c_380⟩ | ⟨rfl, rfl, c_381, c_382, c_383⟩ | ⟨rfl, rfl, c_384, c_385, c_386⟩ | ⟨rfl, rfl, c_387, c_388, c_389⟩ | ⟨rfl, rfl, c_390, c_391, c_392⟩ | ⟨rfl, rfl, c_393, c_394, c_395⟩ | ⟨rfl, rfl, c_396, c_397, c_398⟩ | ⟨rfl, rfl, c_399, c_400, c_401⟩ | ⟨rfl, rfl, c_402, c_403, c_404⟩ | ⟨rfl, rfl, c_405, c_406, c_407⟩
    ·
      exact absurd c_360 (by decide)
    ·
      exact absurd c_362 (by decide)
    ·
      exact absurd c_365 (by decide)
    ·
      exact absurd c_368 (by decide)
    ·
      exact absurd c_371 (by decide)
    ·
      exact absurd c_374 (by decide)
    ·
      have hP : va_P G.1 vwCl [(aout, .inl (G.2.2.2.2, 1, .inr (.inl (vp_updL (fun _ => 0) 0 99)))), (x0, .inr (11, ofL 17 Fx0)), (x3, .inr (7, ofL 5 Fx3)), (x4, .inr (8, ofL 5 Fx4)), (x8, .inr (3, ofL 12 Fx8)), (x31, .inr (1, ofL 10 Fx31)), (x2, .inl (G.2.1, 3, .inl (fun _ => 0))), (m14, .inl (G.2.1, 3, .inl (fun _ => 0))), (m0, .inr (12, ofL 88 (updV Fm0 0 (.int 0))))] H := hP
      have hD : va_D A [(aout, .inl (G.2.2.2.2, 1, .inr (.inl (vp_updL (fun _ => 0) 0 99)))), (x0, .inr (11, ofL 17 Fx0)), (x3, .inr (7, ofL 5 Fx3)), (x4, .inr (8, ofL 5 Fx4)), (x8, .inr (3, ofL 12 Fx8)), (x31, .inr (1, ofL 10 Fx31)), (x2, .inl (G.2.1, 3, .inl (fun _ => 0))), (m14, .inl (G.2.1, 3, .inl (fun _ => 0))), (m0, .inr (12, ofL 88 (updV Fm0 0 (.int 0))))] := hD
      refine lv_istore (lv' := [(6, .int 99), (5, .int 0), (0, .ref b), (1, .ref x0), (2, .ref m0), (3, .ref aout), (4, .int 0)]) hx hb dL_law_377 hl (by decide) rfl (fun ls hl => ?_)
      refine lv_aload_n hx hb dL_law_379 rfl (lv_at hl 4 rfl) ?_
      refine k_callVi (wr := [(aout, .inl (G.2.2.2.2, 1, .inr (.inl (vp_updL (fun _ => 0) 0 99)))), (x0, .inr (11, ofL 17 Fx0)), (x3, .inr (7, ofL 5 Fx3)), (x4, .inr (8, ofL 5 Fx4)), (x8, .inr (3, ofL 12 Fx8)), (x31, .inr (1, ofL 10 Fx31)), (x2, .inl (G.2.1, 3, .inl (fun _ => 0))), (m14, .inl (G.2.1, 3, .inl (fun _ => 0)))]) (rest := []) li_L_118 C (c_X12_thrown l G H.size m0 (updV Fm0 0 (.int 0)) 0 rfl) (kR rfl) hP hD hS [8] [0, 1, 2, 3, 4, 5, 6, 7] rfl rfl rfl rfl (by decide) 0 12 rfl rfl rfl hl.1 rfl (Nat.le_of_ble_eq_true rfl) dL_law_380 (fun rr409 uu410 H locs hw408 hP hD hS => ?_)
      obtain rfl : rr409 = 0 := hw408
      have hP : va_P G.1 vwCl [(aout, .inl (G.2.2.2.2, 1, .inr (.inl (vp_updL (fun _ => 0) 0 99)))), (x0, .inr (11, ofL 17 Fx0)), (x3, .inr (7, ofL 5 Fx3)), (x4, .inr (8, ofL 5 Fx4)), (x8, .inr (3, ofL 12 Fx8)), (x31, .inr (1, ofL 10 Fx31)), (x2, .inl (G.2.1, 3, .inl (fun _ => 0))), (m14, .inl (G.2.1, 3, .inl (fun _ => 0))), (m0, .inr (12, ofL 88 (updV Fm0 0 (.int 0))))] H := hP
      have hD : va_D A [(aout, .inl (G.2.2.2.2, 1, .inr (.inl (vp_updL (fun _ => 0) 0 99)))), (x0, .inr (11, ofL 17 Fx0)), (x3, .inr (7, ofL 5 Fx3)), (x4, .inr (8, ofL 5 Fx4)), (x8, .inr (3, ofL 12 Fx8)), (x31, .inr (1, ofL 10 Fx31)), (x2, .inl (G.2.1, 3, .inl (fun _ => 0))), (m14, .inl (G.2.1, 3, .inl (fun _ => 0))), (m0, .inr (12, ofL 88 (updV Fm0 0 (.int 0))))] := hD
      refine lv_iload hx hb dL_law_383 (lv_at hl 1 rfl) ?_
      refine lv_icmp_eq (x := 0) (y := 0) (tgt := 390) hx hb dL_law_385 (by decide) (fun c_411 => ?_) (fun c_411 => ?_)
      rotate_left
      · exact absurd (by decide) c_411
      refine lv_iload hx hb dL_law_390 (lv_at hl 1 rfl) ?_
      refine lv_if_ne (x := 0) (tgt := 407) hx hb dL_law_392 (by decide) (fun c_412 => ?_) (fun c_412 => ?_)
      · exact absurd (by decide) c_412
      refine lv_aload_n hx hb dL_law_395 rfl (lv_at hl 5 rfl) ?_
      refine lv_iconst (v := 0) hx hb dL_law_396 (by decide) ?_
      refine k_lald C hP 0 rfl (k_in (by decide)) dL_law_397 ?_
      refine k_eql (y := 99) rfl ?_
      refine lv_iload hx hb dL_law_398 (lv_at hl 0 rfl) ?_
      refine lv_i2l (v := 99) hx hb dL_law_400 (by decide) ?_
      refine W.lcmp hx hb dL_law_401 ?_
      refine k_eqi (y := 0) (by decide) ?_
      refine lv_if_eq (x := 0) (tgt := 407) hx hb dL_law_402 (by decide) (fun c_413 => ?_) (fun c_413 => ?_)
      rotate_left
      · exact absurd (by decide) c_413
      refine lv_goto (tgt := 2265) hx hb dL_law_407 (by decide) ?_
      exact law_end hst C0 hA C hS (lv_sub hl [2, 6] rfl) (Nat.le_of_ble_eq_true rfl) (Nat.le_of_ble_eq_true rfl)
    ·
      exact absurd c_380 (by decide)
    ·
      exact absurd c_383 (by decide)
    ·
      exact absurd c_386 (by decide)
    ·
      exact absurd c_389 (by decide)
    ·
      exact absurd c_392 (by decide)
    ·
      exact absurd c_395 (by decide)
    ·
      exact absurd c_398 (by decide)
    ·
      exact absurd c_401 (by decide)
    ·
      exact absurd c_404 (by decide)
    ·
      exact absurd c_407 (by decide)
  ·
    have hP : va_P G.1 vwCl [(m0, .inr (12, ofL 88 Fm0)), (m14, .inl (G.2.1, 3, .inl (fun _ => 0))), (aout, .inl (G.2.2.2.2, 1, .inr (.inl (vp_updL (fun _ => 0) 0 0)))), (x0, .inr (11, ofL 17 Fx0)), (x3, .inr (7, ofL 5 Fx3)), (x4, .inr (8, ofL 5 Fx4)), (x8, .inr (3, ofL 12 Fx8)), (x31, .inr (1, ofL 10 Fx31)), (x2, .inl (G.2.1, 3, .inl (fun _ => 0)))] H := hP
    have hD : va_D A [(m0, .inr (12, ofL 88 Fm0)), (m14, .inl (G.2.1, 3, .inl (fun _ => 0))), (aout, .inl (G.2.2.2.2, 1, .inr (.inl (vp_updL (fun _ => 0) 0 0)))), (x0, .inr (11, ofL 17 Fx0)), (x3, .inr (7, ofL 5 Fx3)), (x4, .inr (8, ofL 5 Fx4)), (x8, .inr (3, ofL 12 Fx8)), (x31, .inr (1, ofL 10 Fx31)), (x2, .inl (G.2.1, 3, .inl (fun _ => 0)))] := hD
    refine lv_istore (lv' := [(5, .int 0), (0, .ref b), (1, .ref x0), (2, .ref m0), (3, .ref aout), (4, .int 0)]) hx hb dL_law_365 hl (by decide) rfl (fun ls hl => ?_)
    refine lv_aload_n hx hb dL_law_367 rfl (lv_at hl 3 rfl) ?_
    refine lv_aload_n hx hb dL_law_368 rfl (lv_at hl 1 rfl) ?_
    refine lv_iload hx hb dL_law_369 (lv_at hl 5 rfl) ?_
    refine lv_iconst (v := 1) hx hb dL_law_371 (by decide) ?_
    refine lv_iadd hx hb dL_law_372 ?_
    refine k_eqi (y := 1) (by decide) ?_
    refine va_sld hx hb hX hbl hbA hS (k_in (by decide)) dL_law_373 ?_
    refine k_eqi (y := 5) hv1 ?_
    refine k_callVi (wr := [(aout, .inl (G.2.2.2.2, 1, .inr (.inl (vp_updL (fun _ => 0) 0 0)))), (x0, .inr (11, ofL 17 Fx0)), (x3, .inr (7, ofL 5 Fx3)), (x4, .inr (8, ofL 5 Fx4)), (x8, .inr (3, ofL 12 Fx8)), (x31, .inr (1, ofL 10 Fx31)), (x2, .inl (G.2.1, 3, .inl (fun _ => 0)))]) (rest := []) li_L_128 C (c_X12_count l G H.size m0 5 Fm0 m14 e_m0_1 e_m0_2 e_m0_52 e_m0_3 e_m0_4 e_m0_62 e_m0_73 e_m0_18 e_m0_21) (kR rfl) hP hD hS [0, 1] [2, 3, 4, 5, 6, 7, 8] rfl rfl rfl rfl (by decide) 0 12 rfl rfl rfl hl.1 rfl (Nat.le_of_ble_eq_true rfl) dL_law_374 (fun rr415 uu416 H locs hw414 hP hD hS => ?_)
    rcases hw414 with ⟨rfl, rfl, c_417⟩ | ⟨rfl, rfl, c_418, c_419⟩ | ⟨rfl, rfl, c_420, c_421, c_422⟩ | ⟨rfl, rfl, c_423, c_424, c_425⟩ | ⟨rfl, rfl, c_426, c_427, c_428⟩ | ⟨rfl, rfl, c_429, c_430, c_431⟩ | ⟨rfl, rfl, c_432, c_433, c_434⟩ | ⟨rfl, rfl, c_435, c_436, c_437⟩ | ⟨rfl, rfl, c_438, c_439, c_440⟩ | ⟨rfl, rfl, c_441, c_442, c_443⟩ | ⟨rfl, rfl, c_444, c_445, c_446⟩ | ⟨rfl, rfl, c_447, c_448, c_449⟩ | ⟨rfl, rfl, c_450, c_451, c_452⟩ | ⟨rfl, rfl, c_453, c_454, c_455⟩ | ⟨rfl, rfl, c_456, c_457, c_458⟩ | ⟨rfl, rfl, c_459, c_460, c_461⟩ | ⟨rfl, rfl, c_462, c_463, c_464⟩
    ·
      exact absurd c_417 (by decide)
    ·
      exact absurd c_419 (by decide)
    ·
      exact absurd c_422 (by decide)
    ·
      exact absurd c_425 (by decide)
    ·
      exact absurd c_428 (by decide)
    ·
      exact absurd c_431 (by decide)
    ·
      exact absurd c_434 (by decide)
    ·
      have hP : va_P G.1 vwCl [(aout, .inl (G.2.2.2.2, 1, .inr (.inl (vp_updL (fun _ => 0) 0 0)))), (x0, .inr (11, ofL 17 Fx0)), (x3, .inr (7, ofL 5 Fx3)), (x4, .inr (8, ofL 5 Fx4)), (x8, .inr (3, ofL 12 Fx8)), (x31, .inr (1, ofL 10 Fx31)), (x2, .inl (G.2.1, 3, .inl (fun _ => 0))), (m14, .inl (G.2.1, 3, .inl (fun _ => 0))), (m0, .inr (12, ofL 88 (updV Fm0 0 (.int 0))))] H := hP
      have hD : va_D A [(aout, .inl (G.2.2.2.2, 1, .inr (.inl (vp_updL (fun _ => 0) 0 0)))), (x0, .inr (11, ofL 17 Fx0)), (x3, .inr (7, ofL 5 Fx3)), (x4, .inr (8, ofL 5 Fx4)), (x8, .inr (3, ofL 12 Fx8)), (x31, .inr (1, ofL 10 Fx31)), (x2, .inl (G.2.1, 3, .inl (fun _ => 0))), (m14, .inl (G.2.1, 3, .inl (fun _ => 0))), (m0, .inr (12, ofL 88 (updV Fm0 0 (.int 0))))] := hD
      refine lv_istore (lv' := [(6, .int 0), (5, .int 0), (0, .ref b), (1, .ref x0), (2, .ref m0), (3, .ref aout), (4, .int 0)]) hx hb dL_law_377 hl (by decide) rfl (fun ls hl => ?_)
      refine lv_aload_n hx hb dL_law_379 rfl (lv_at hl 4 rfl) ?_
      refine k_callVi (wr := [(aout, .inl (G.2.2.2.2, 1, .inr (.inl (vp_updL (fun _ => 0) 0 0)))), (x0, .inr (11, ofL 17 Fx0)), (x3, .inr (7, ofL 5 Fx3)), (x4, .inr (8, ofL 5 Fx4)), (x8, .inr (3, ofL 12 Fx8)), (x31, .inr (1, ofL 10 Fx31)), (x2, .inl (G.2.1, 3, .inl (fun _ => 0))), (m14, .inl (G.2.1, 3, .inl (fun _ => 0)))]) (rest := []) li_L_118 C (c_X12_thrown l G H.size m0 (updV Fm0 0 (.int 0)) 0 rfl) (kR rfl) hP hD hS [8] [0, 1, 2, 3, 4, 5, 6, 7] rfl rfl rfl rfl (by decide) 0 12 rfl rfl rfl hl.1 rfl (Nat.le_of_ble_eq_true rfl) dL_law_380 (fun rr466 uu467 H locs hw465 hP hD hS => ?_)
      obtain rfl : rr466 = 0 := hw465
      have hP : va_P G.1 vwCl [(aout, .inl (G.2.2.2.2, 1, .inr (.inl (vp_updL (fun _ => 0) 0 0)))), (x0, .inr (11, ofL 17 Fx0)), (x3, .inr (7, ofL 5 Fx3)), (x4, .inr (8, ofL 5 Fx4)), (x8, .inr (3, ofL 12 Fx8)), (x31, .inr (1, ofL 10 Fx31)), (x2, .inl (G.2.1, 3, .inl (fun _ => 0))), (m14, .inl (G.2.1, 3, .inl (fun _ => 0))), (m0, .inr (12, ofL 88 (updV Fm0 0 (.int 0))))] H := hP
      have hD : va_D A [(aout, .inl (G.2.2.2.2, 1, .inr (.inl (vp_updL (fun _ => 0) 0 0)))), (x0, .inr (11, ofL 17 Fx0)), (x3, .inr (7, ofL 5 Fx3)), (x4, .inr (8, ofL 5 Fx4)), (x8, .inr (3, ofL 12 Fx8)), (x31, .inr (1, ofL 10 Fx31)), (x2, .inl (G.2.1, 3, .inl (fun _ => 0))), (m14, .inl (G.2.1, 3, .inl (fun _ => 0))), (m0, .inr (12, ofL 88 (updV Fm0 0 (.int 0))))] := hD
      refine lv_iload hx hb dL_law_383 (lv_at hl 1 rfl) ?_
      refine lv_icmp_eq (x := 0) (y := 0) (tgt := 390) hx hb dL_law_385 (by decide) (fun c_468 => ?_) (fun c_468 => ?_)
      rotate_left
      · exact absurd (by decide) c_468
      refine lv_iload hx hb dL_law_390 (lv_at hl 1 rfl) ?_
      refine lv_if_ne (x := 0) (tgt := 407) hx hb dL_law_392 (by decide) (fun c_469 => ?_) (fun c_469 => ?_)
      · exact absurd (by decide) c_469
      refine lv_aload_n hx hb dL_law_395 rfl (lv_at hl 5 rfl) ?_
      refine lv_iconst (v := 0) hx hb dL_law_396 (by decide) ?_
      refine k_lald C hP 0 rfl (k_in (by decide)) dL_law_397 ?_
      refine k_eql (y := 0) rfl ?_
      refine lv_iload hx hb dL_law_398 (lv_at hl 0 rfl) ?_
      refine lv_i2l (v := 0) hx hb dL_law_400 (by decide) ?_
      refine W.lcmp hx hb dL_law_401 ?_
      refine k_eqi (y := 0) (by decide) ?_
      refine lv_if_eq (x := 0) (tgt := 407) hx hb dL_law_402 (by decide) (fun c_470 => ?_) (fun c_470 => ?_)
      rotate_left
      · exact absurd (by decide) c_470
      refine lv_goto (tgt := 2265) hx hb dL_law_407 (by decide) ?_
      exact law_end hst C0 hA C hS (lv_sub hl [2, 6] rfl) (Nat.le_of_ble_eq_true rfl) (Nat.le_of_ble_eq_true rfl)
    ·
      exact absurd c_440 (by decide)
    ·
      exact absurd c_443 (by decide)
    ·
      exact absurd c_446 (by decide)
    ·
      exact absurd c_449 (by decide)
    ·
      exact absurd c_452 (by decide)
    ·
      exact absurd c_455 (by decide)
    ·
      exact absurd c_458 (by decide)
    ·
      exact absurd c_461 (by decide)
    ·
      exact absurd c_464 (by decide)
  ·
    have hP : va_P G.1 vwCl [(m0, .inr (12, ofL 88 Fm0)), (m14, .inl (G.2.1, 3, .inl (fun _ => 0))), (aout, .inl (G.2.2.2.2, 1, .inr (.inl (vp_updL (fun _ => 0) 0 0)))), (x0, .inr (11, ofL 17 Fx0)), (x3, .inr (7, ofL 5 Fx3)), (x4, .inr (8, ofL 5 Fx4)), (x8, .inr (3, ofL 12 Fx8)), (x31, .inr (1, ofL 10 Fx31)), (x2, .inl (G.2.1, 3, .inl (fun _ => 0)))] H := hP
    have hD : va_D A [(m0, .inr (12, ofL 88 Fm0)), (m14, .inl (G.2.1, 3, .inl (fun _ => 0))), (aout, .inl (G.2.2.2.2, 1, .inr (.inl (vp_updL (fun _ => 0) 0 0)))), (x0, .inr (11, ofL 17 Fx0)), (x3, .inr (7, ofL 5 Fx3)), (x4, .inr (8, ofL 5 Fx4)), (x8, .inr (3, ofL 12 Fx8)), (x31, .inr (1, ofL 10 Fx31)), (x2, .inl (G.2.1, 3, .inl (fun _ => 0)))] := hD
    refine lv_istore (lv' := [(5, .int 0), (0, .ref b), (1, .ref x0), (2, .ref m0), (3, .ref aout), (4, .int 0)]) hx hb dL_law_365 hl (by decide) rfl (fun ls hl => ?_)
    refine lv_aload_n hx hb dL_law_367 rfl (lv_at hl 3 rfl) ?_
    refine lv_aload_n hx hb dL_law_368 rfl (lv_at hl 1 rfl) ?_
    refine lv_iload hx hb dL_law_369 (lv_at hl 5 rfl) ?_
    refine lv_iconst (v := 1) hx hb dL_law_371 (by decide) ?_
    refine lv_iadd hx hb dL_law_372 ?_
    refine k_eqi (y := 1) (by decide) ?_
    refine va_sld hx hb hX hbl hbA hS (k_in (by decide)) dL_law_373 ?_
    refine k_eqi (y := 6) hv1 ?_
    refine k_callVi (wr := [(aout, .inl (G.2.2.2.2, 1, .inr (.inl (vp_updL (fun _ => 0) 0 0)))), (x0, .inr (11, ofL 17 Fx0)), (x3, .inr (7, ofL 5 Fx3)), (x4, .inr (8, ofL 5 Fx4)), (x8, .inr (3, ofL 12 Fx8)), (x31, .inr (1, ofL 10 Fx31)), (x2, .inl (G.2.1, 3, .inl (fun _ => 0)))]) (rest := []) li_L_128 C (c_X12_count l G H.size m0 6 Fm0 m14 e_m0_1 e_m0_2 e_m0_52 e_m0_3 e_m0_4 e_m0_62 e_m0_73 e_m0_18 e_m0_21) (kR rfl) hP hD hS [0, 1] [2, 3, 4, 5, 6, 7, 8] rfl rfl rfl rfl (by decide) 0 12 rfl rfl rfl hl.1 rfl (Nat.le_of_ble_eq_true rfl) dL_law_374 (fun rr472 uu473 H locs hw471 hP hD hS => ?_)
    rcases hw471 with ⟨rfl, rfl, c_474⟩ | ⟨rfl, rfl, c_475, c_476⟩ | ⟨rfl, rfl, c_477, c_478, c_479⟩ | ⟨rfl, rfl, c_480, c_481, c_482⟩ | ⟨rfl, rfl, c_483, c_484, c_485⟩ | ⟨rfl, rfl, c_486, c_487, c_488⟩ | ⟨rfl, rfl, c_489, c_490, c_491⟩ | ⟨rfl, rfl, c_492, c_493, c_494⟩ | ⟨rfl, rfl, c_495, c_496, c_497⟩ | ⟨rfl, rfl, c_498, c_499, c_500⟩ | ⟨rfl, rfl, c_501, c_502, c_503⟩ | ⟨rfl, rfl, c_504, c_505, c_506⟩ | ⟨rfl, rfl, c_507, c_508, c_509⟩ | ⟨rfl, rfl, c_510, c_511, c_512⟩ | ⟨rfl, rfl, c_513, c_514, c_515⟩ | ⟨rfl, rfl, c_516, c_517, c_518⟩ | ⟨rfl, rfl, c_519, c_520, c_521⟩
    ·
      exact absurd c_474 (by decide)
    ·
      exact absurd c_476 (by decide)
    ·
      exact absurd c_479 (by decide)
    ·
      exact absurd c_482 (by decide)
    ·
      exact absurd c_485 (by decide)
    ·
      exact absurd c_488 (by decide)
    ·
      exact absurd c_491 (by decide)
    ·
      exact absurd c_494 (by decide)
    ·
      have hP : va_P G.1 vwCl [(aout, .inl (G.2.2.2.2, 1, .inr (.inl (vp_updL (fun _ => 0) 0 0)))), (x0, .inr (11, ofL 17 Fx0)), (x3, .inr (7, ofL 5 Fx3)), (x4, .inr (8, ofL 5 Fx4)), (x8, .inr (3, ofL 12 Fx8)), (x31, .inr (1, ofL 10 Fx31)), (x2, .inl (G.2.1, 3, .inl (fun _ => 0))), (m14, .inl (G.2.1, 3, .inl (fun _ => 0))), (m0, .inr (12, ofL 88 (updV Fm0 0 (.int 0))))] H := hP
      have hD : va_D A [(aout, .inl (G.2.2.2.2, 1, .inr (.inl (vp_updL (fun _ => 0) 0 0)))), (x0, .inr (11, ofL 17 Fx0)), (x3, .inr (7, ofL 5 Fx3)), (x4, .inr (8, ofL 5 Fx4)), (x8, .inr (3, ofL 12 Fx8)), (x31, .inr (1, ofL 10 Fx31)), (x2, .inl (G.2.1, 3, .inl (fun _ => 0))), (m14, .inl (G.2.1, 3, .inl (fun _ => 0))), (m0, .inr (12, ofL 88 (updV Fm0 0 (.int 0))))] := hD
      refine lv_istore (lv' := [(6, .int 0), (5, .int 0), (0, .ref b), (1, .ref x0), (2, .ref m0), (3, .ref aout), (4, .int 0)]) hx hb dL_law_377 hl (by decide) rfl (fun ls hl => ?_)
      refine lv_aload_n hx hb dL_law_379 rfl (lv_at hl 4 rfl) ?_
      refine k_callVi (wr := [(aout, .inl (G.2.2.2.2, 1, .inr (.inl (vp_updL (fun _ => 0) 0 0)))), (x0, .inr (11, ofL 17 Fx0)), (x3, .inr (7, ofL 5 Fx3)), (x4, .inr (8, ofL 5 Fx4)), (x8, .inr (3, ofL 12 Fx8)), (x31, .inr (1, ofL 10 Fx31)), (x2, .inl (G.2.1, 3, .inl (fun _ => 0))), (m14, .inl (G.2.1, 3, .inl (fun _ => 0)))]) (rest := []) li_L_118 C (c_X12_thrown l G H.size m0 (updV Fm0 0 (.int 0)) 0 rfl) (kR rfl) hP hD hS [8] [0, 1, 2, 3, 4, 5, 6, 7] rfl rfl rfl rfl (by decide) 0 12 rfl rfl rfl hl.1 rfl (Nat.le_of_ble_eq_true rfl) dL_law_380 (fun rr523 uu524 H locs hw522 hP hD hS => ?_)
      obtain rfl : rr523 = 0 := hw522
      have hP : va_P G.1 vwCl [(aout, .inl (G.2.2.2.2, 1, .inr (.inl (vp_updL (fun _ => 0) 0 0)))), (x0, .inr (11, ofL 17 Fx0)), (x3, .inr (7, ofL 5 Fx3)), (x4, .inr (8, ofL 5 Fx4)), (x8, .inr (3, ofL 12 Fx8)), (x31, .inr (1, ofL 10 Fx31)), (x2, .inl (G.2.1, 3, .inl (fun _ => 0))), (m14, .inl (G.2.1, 3, .inl (fun _ => 0))), (m0, .inr (12, ofL 88 (updV Fm0 0 (.int 0))))] H := hP
      have hD : va_D A [(aout, .inl (G.2.2.2.2, 1, .inr (.inl (vp_updL (fun _ => 0) 0 0)))), (x0, .inr (11, ofL 17 Fx0)), (x3, .inr (7, ofL 5 Fx3)), (x4, .inr (8, ofL 5 Fx4)), (x8, .inr (3, ofL 12 Fx8)), (x31, .inr (1, ofL 10 Fx31)), (x2, .inl (G.2.1, 3, .inl (fun _ => 0))), (m14, .inl (G.2.1, 3, .inl (fun _ => 0))), (m0, .inr (12, ofL 88 (updV Fm0 0 (.int 0))))] := hD
      refine lv_iload hx hb dL_law_383 (lv_at hl 1 rfl) ?_
      refine lv_icmp_eq (x := 0) (y := 0) (tgt := 390) hx hb dL_law_385 (by decide) (fun c_525 => ?_) (fun c_525 => ?_)
      rotate_left
      · exact absurd (by decide) c_525
      refine lv_iload hx hb dL_law_390 (lv_at hl 1 rfl) ?_
      refine lv_if_ne (x := 0) (tgt := 407) hx hb dL_law_392 (by decide) (fun c_526 => ?_) (fun c_526 => ?_)
      · exact absurd (by decide) c_526
      refine lv_aload_n hx hb dL_law_395 rfl (lv_at hl 5 rfl) ?_
      refine lv_iconst (v := 0) hx hb dL_law_396 (by decide) ?_
      refine k_lald C hP 0 rfl (k_in (by decide)) dL_law_397 ?_
      refine k_eql (y := 0) rfl ?_
      refine lv_iload hx hb dL_law_398 (lv_at hl 0 rfl) ?_
      refine lv_i2l (v := 0) hx hb dL_law_400 (by decide) ?_
      refine W.lcmp hx hb dL_law_401 ?_
      refine k_eqi (y := 0) (by decide) ?_
      refine lv_if_eq (x := 0) (tgt := 407) hx hb dL_law_402 (by decide) (fun c_527 => ?_) (fun c_527 => ?_)
      rotate_left
      · exact absurd (by decide) c_527
      refine lv_goto (tgt := 2265) hx hb dL_law_407 (by decide) ?_
      exact law_end hst C0 hA C hS (lv_sub hl [2, 6] rfl) (Nat.le_of_ble_eq_true rfl) (Nat.le_of_ble_eq_true rfl)
    ·
      exact absurd c_500 (by decide)
    ·
      exact absurd c_503 (by decide)
    ·
      exact absurd c_506 (by decide)
    ·
      exact absurd c_509 (by decide)
    ·
      exact absurd c_512 (by decide)
    ·
      exact absurd c_515 (by decide)
    ·
      exact absurd c_518 (by decide)
    ·
      exact absurd c_521 (by decide)
  ·
    have hP : va_P G.1 vwCl [(m0, .inr (12, ofL 88 Fm0)), (m14, .inl (G.2.1, 3, .inl (fun _ => 0))), (aout, .inl (G.2.2.2.2, 1, .inr (.inl (vp_updL (fun _ => 0) 0 0)))), (x4, .inr (8, ofL 5 Fx4)), (x8, .inr (3, ofL 12 Fx8)), (x2, .inl (G.2.1, 3, .inl (fun _ => 0))), (x0, .inr (11, ofL 17 Fx0)), (x31, .inr (1, ofL 10 Fx31)), (x3, .inr (7, ofL 5 Fx3))] H := hP
    have hD : va_D A [(m0, .inr (12, ofL 88 Fm0)), (m14, .inl (G.2.1, 3, .inl (fun _ => 0))), (aout, .inl (G.2.2.2.2, 1, .inr (.inl (vp_updL (fun _ => 0) 0 0)))), (x4, .inr (8, ofL 5 Fx4)), (x8, .inr (3, ofL 12 Fx8)), (x2, .inl (G.2.1, 3, .inl (fun _ => 0))), (x0, .inr (11, ofL 17 Fx0)), (x31, .inr (1, ofL 10 Fx31)), (x3, .inr (7, ofL 5 Fx3))] := hD
    refine lv_istore (lv' := [(5, .int 0), (0, .ref b), (1, .ref x0), (2, .ref m0), (3, .ref aout), (4, .int 0)]) hx hb dL_law_365 hl (by decide) rfl (fun ls hl => ?_)
    refine lv_aload_n hx hb dL_law_367 rfl (lv_at hl 3 rfl) ?_
    refine lv_aload_n hx hb dL_law_368 rfl (lv_at hl 1 rfl) ?_
    refine lv_iload hx hb dL_law_369 (lv_at hl 5 rfl) ?_
    refine lv_iconst (v := 1) hx hb dL_law_371 (by decide) ?_
    refine lv_iadd hx hb dL_law_372 ?_
    refine k_eqi (y := 1) (by decide) ?_
    refine va_sld hx hb hX hbl hbA hS (k_in (by decide)) dL_law_373 ?_
    refine k_eqi (y := 7) hv1 ?_
    refine k_callVi (wr := [(aout, .inl (G.2.2.2.2, 1, .inr (.inl (vp_updL (fun _ => 0) 0 0)))), (x4, .inr (8, ofL 5 Fx4)), (x8, .inr (3, ofL 12 Fx8)), (x2, .inl (G.2.1, 3, .inl (fun _ => 0))), (x0, .inr (11, ofL 17 Fx0)), (x31, .inr (1, ofL 10 Fx31)), (x3, .inr (7, ofL 5 Fx3))]) (rest := []) li_L_128 C (c_X12_count l G H.size m0 7 Fm0 m14 e_m0_1 e_m0_2 e_m0_52 e_m0_3 e_m0_4 e_m0_62 e_m0_73 e_m0_18 e_m0_21) (kR rfl) hP hD hS [0, 1] [2, 3, 4, 5, 6, 7, 8] rfl rfl rfl rfl (by decide) 0 12 rfl rfl rfl hl.1 rfl (Nat.le_of_ble_eq_true rfl) dL_law_374 (fun rr529 uu530 H locs hw528 hP hD hS => ?_)
    rcases hw528 with ⟨rfl, rfl, c_531⟩ | ⟨rfl, rfl, c_532, c_533⟩ | ⟨rfl, rfl, c_534, c_535, c_536⟩ | ⟨rfl, rfl, c_537, c_538, c_539⟩ | ⟨rfl, rfl, c_540, c_541, c_542⟩ | ⟨rfl, rfl, c_543, c_544, c_545⟩ | ⟨rfl, rfl, c_546, c_547, c_548⟩ | ⟨rfl, rfl, c_549, c_550, c_551⟩ | ⟨rfl, rfl, c_552, c_553, c_554⟩ | ⟨rfl, rfl, c_555, c_556, c_557⟩ | ⟨rfl, rfl, c_558, c_559, c_560⟩ | ⟨rfl, rfl, c_561, c_562, c_563⟩ | ⟨rfl, rfl, c_564, c_565, c_566⟩ | ⟨rfl, rfl, c_567, c_568, c_569⟩ | ⟨rfl, rfl, c_570, c_571, c_572⟩ | ⟨rfl, rfl, c_573, c_574, c_575⟩ | ⟨rfl, rfl, c_576, c_577, c_578⟩
    ·
      exact absurd c_531 (by decide)
    ·
      exact absurd c_533 (by decide)
    ·
      exact absurd c_536 (by decide)
    ·
      exact absurd c_539 (by decide)
    ·
      exact absurd c_542 (by decide)
    ·
      exact absurd c_545 (by decide)
    ·
      exact absurd c_548 (by decide)
    ·
      exact absurd c_551 (by decide)
    ·
      exact absurd c_554 (by decide)
    ·
      have hP : va_P G.1 vwCl [(aout, .inl (G.2.2.2.2, 1, .inr (.inl (vp_updL (fun _ => 0) 0 0)))), (x4, .inr (8, ofL 5 Fx4)), (x8, .inr (3, ofL 12 Fx8)), (x2, .inl (G.2.1, 3, .inl (fun _ => 0))), (x0, .inr (11, ofL 17 Fx0)), (x31, .inr (1, ofL 10 Fx31)), (x3, .inr (7, ofL 5 Fx3)), (m14, .inl (G.2.1, 3, .inl (fun _ => 0))), (m0, .inr (12, ofL 88 (updV Fm0 0 (.int 0))))] H := hP
      have hD : va_D A [(aout, .inl (G.2.2.2.2, 1, .inr (.inl (vp_updL (fun _ => 0) 0 0)))), (x4, .inr (8, ofL 5 Fx4)), (x8, .inr (3, ofL 12 Fx8)), (x2, .inl (G.2.1, 3, .inl (fun _ => 0))), (x0, .inr (11, ofL 17 Fx0)), (x31, .inr (1, ofL 10 Fx31)), (x3, .inr (7, ofL 5 Fx3)), (m14, .inl (G.2.1, 3, .inl (fun _ => 0))), (m0, .inr (12, ofL 88 (updV Fm0 0 (.int 0))))] := hD
      refine lv_istore (lv' := [(6, .int 0), (5, .int 0), (0, .ref b), (1, .ref x0), (2, .ref m0), (3, .ref aout), (4, .int 0)]) hx hb dL_law_377 hl (by decide) rfl (fun ls hl => ?_)
      refine lv_aload_n hx hb dL_law_379 rfl (lv_at hl 4 rfl) ?_
      refine k_callVi (wr := [(aout, .inl (G.2.2.2.2, 1, .inr (.inl (vp_updL (fun _ => 0) 0 0)))), (x4, .inr (8, ofL 5 Fx4)), (x8, .inr (3, ofL 12 Fx8)), (x2, .inl (G.2.1, 3, .inl (fun _ => 0))), (x0, .inr (11, ofL 17 Fx0)), (x31, .inr (1, ofL 10 Fx31)), (x3, .inr (7, ofL 5 Fx3)), (m14, .inl (G.2.1, 3, .inl (fun _ => 0)))]) (rest := []) li_L_118 C (c_X12_thrown l G H.size m0 (updV Fm0 0 (.int 0)) 0 rfl) (kR rfl) hP hD hS [8] [0, 1, 2, 3, 4, 5, 6, 7] rfl rfl rfl rfl (by decide) 0 12 rfl rfl rfl hl.1 rfl (Nat.le_of_ble_eq_true rfl) dL_law_380 (fun rr580 uu581 H locs hw579 hP hD hS => ?_)
      obtain rfl : rr580 = 0 := hw579
      have hP : va_P G.1 vwCl [(aout, .inl (G.2.2.2.2, 1, .inr (.inl (vp_updL (fun _ => 0) 0 0)))), (x4, .inr (8, ofL 5 Fx4)), (x8, .inr (3, ofL 12 Fx8)), (x2, .inl (G.2.1, 3, .inl (fun _ => 0))), (x0, .inr (11, ofL 17 Fx0)), (x31, .inr (1, ofL 10 Fx31)), (x3, .inr (7, ofL 5 Fx3)), (m14, .inl (G.2.1, 3, .inl (fun _ => 0))), (m0, .inr (12, ofL 88 (updV Fm0 0 (.int 0))))] H := hP
      have hD : va_D A [(aout, .inl (G.2.2.2.2, 1, .inr (.inl (vp_updL (fun _ => 0) 0 0)))), (x4, .inr (8, ofL 5 Fx4)), (x8, .inr (3, ofL 12 Fx8)), (x2, .inl (G.2.1, 3, .inl (fun _ => 0))), (x0, .inr (11, ofL 17 Fx0)), (x31, .inr (1, ofL 10 Fx31)), (x3, .inr (7, ofL 5 Fx3)), (m14, .inl (G.2.1, 3, .inl (fun _ => 0))), (m0, .inr (12, ofL 88 (updV Fm0 0 (.int 0))))] := hD
      refine lv_iload hx hb dL_law_383 (lv_at hl 1 rfl) ?_
      refine lv_icmp_eq (x := 0) (y := 0) (tgt := 390) hx hb dL_law_385 (by decide) (fun c_582 => ?_) (fun c_582 => ?_)
      rotate_left
      · exact absurd (by decide) c_582
      refine lv_iload hx hb dL_law_390 (lv_at hl 1 rfl) ?_
      refine lv_if_ne (x := 0) (tgt := 407) hx hb dL_law_392 (by decide) (fun c_583 => ?_) (fun c_583 => ?_)
      · exact absurd (by decide) c_583
      refine lv_aload_n hx hb dL_law_395 rfl (lv_at hl 5 rfl) ?_
      refine lv_iconst (v := 0) hx hb dL_law_396 (by decide) ?_
      refine k_lald C hP 0 rfl (k_in (by decide)) dL_law_397 ?_
      refine k_eql (y := 0) rfl ?_
      refine lv_iload hx hb dL_law_398 (lv_at hl 0 rfl) ?_
      refine lv_i2l (v := 0) hx hb dL_law_400 (by decide) ?_
      refine W.lcmp hx hb dL_law_401 ?_
      refine k_eqi (y := 0) (by decide) ?_
      refine lv_if_eq (x := 0) (tgt := 407) hx hb dL_law_402 (by decide) (fun c_584 => ?_) (fun c_584 => ?_)
      rotate_left
      · exact absurd (by decide) c_584
      refine lv_goto (tgt := 2265) hx hb dL_law_407 (by decide) ?_
      exact law_end hst C0 hA C hS (lv_sub hl [2, 6] rfl) (Nat.le_of_ble_eq_true rfl) (Nat.le_of_ble_eq_true rfl)
    ·
      exact absurd c_560 (by decide)
    ·
      exact absurd c_563 (by decide)
    ·
      exact absurd c_566 (by decide)
    ·
      exact absurd c_569 (by decide)
    ·
      exact absurd c_572 (by decide)
    ·
      exact absurd c_575 (by decide)
    ·
      exact absurd c_578 (by decide)
  ·
    have hP : va_P G.1 vwCl [(m0, .inr (12, ofL 88 Fm0)), (m14, .inl (G.2.1, 3, .inl (fun _ => 0))), (aout, .inl (G.2.2.2.2, 1, .inr (.inl (vp_updL (fun _ => 0) 0 0)))), (x0, .inr (11, ofL 17 Fx0)), (x3, .inr (7, ofL 5 Fx3)), (x4, .inr (8, ofL 5 Fx4)), (x8, .inr (3, ofL 12 Fx8)), (x31, .inr (1, ofL 10 Fx31)), (x2, .inl (G.2.1, 3, .inl (fun _ => 0)))] H := hP
    have hD : va_D A [(m0, .inr (12, ofL 88 Fm0)), (m14, .inl (G.2.1, 3, .inl (fun _ => 0))), (aout, .inl (G.2.2.2.2, 1, .inr (.inl (vp_updL (fun _ => 0) 0 0)))), (x0, .inr (11, ofL 17 Fx0)), (x3, .inr (7, ofL 5 Fx3)), (x4, .inr (8, ofL 5 Fx4)), (x8, .inr (3, ofL 12 Fx8)), (x31, .inr (1, ofL 10 Fx31)), (x2, .inl (G.2.1, 3, .inl (fun _ => 0)))] := hD
    refine lv_istore (lv' := [(5, .int 0), (0, .ref b), (1, .ref x0), (2, .ref m0), (3, .ref aout), (4, .int 0)]) hx hb dL_law_365 hl (by decide) rfl (fun ls hl => ?_)
    refine lv_aload_n hx hb dL_law_367 rfl (lv_at hl 3 rfl) ?_
    refine lv_aload_n hx hb dL_law_368 rfl (lv_at hl 1 rfl) ?_
    refine lv_iload hx hb dL_law_369 (lv_at hl 5 rfl) ?_
    refine lv_iconst (v := 1) hx hb dL_law_371 (by decide) ?_
    refine lv_iadd hx hb dL_law_372 ?_
    refine k_eqi (y := 1) (by decide) ?_
    refine va_sld hx hb hX hbl hbA hS (k_in (by decide)) dL_law_373 ?_
    refine k_eqi (y := 8) hv1 ?_
    refine k_callVi (wr := [(aout, .inl (G.2.2.2.2, 1, .inr (.inl (vp_updL (fun _ => 0) 0 0)))), (x0, .inr (11, ofL 17 Fx0)), (x3, .inr (7, ofL 5 Fx3)), (x4, .inr (8, ofL 5 Fx4)), (x8, .inr (3, ofL 12 Fx8)), (x31, .inr (1, ofL 10 Fx31)), (x2, .inl (G.2.1, 3, .inl (fun _ => 0)))]) (rest := []) li_L_128 C (c_X12_count l G H.size m0 8 Fm0 m14 e_m0_1 e_m0_2 e_m0_52 e_m0_3 e_m0_4 e_m0_62 e_m0_73 e_m0_18 e_m0_21) (kR rfl) hP hD hS [0, 1] [2, 3, 4, 5, 6, 7, 8] rfl rfl rfl rfl (by decide) 0 12 rfl rfl rfl hl.1 rfl (Nat.le_of_ble_eq_true rfl) dL_law_374 (fun rr586 uu587 H locs hw585 hP hD hS => ?_)
    rcases hw585 with ⟨rfl, rfl, c_588⟩ | ⟨rfl, rfl, c_589, c_590⟩ | ⟨rfl, rfl, c_591, c_592, c_593⟩ | ⟨rfl, rfl, c_594, c_595, c_596⟩ | ⟨rfl, rfl, c_597, c_598, c_599⟩ | ⟨rfl, rfl, c_600, c_601, c_602⟩ | ⟨rfl, rfl, c_603, c_604, c_605⟩ | ⟨rfl, rfl, c_606, c_607, c_608⟩ | ⟨rfl, rfl, c_609, c_610, c_611⟩ | ⟨rfl, rfl, c_612, c_613, c_614⟩ | ⟨rfl, rfl, c_615, c_616, c_617⟩ | ⟨rfl, rfl, c_618, c_619, c_620⟩ | ⟨rfl, rfl, c_621, c_622, c_623⟩ | ⟨rfl, rfl, c_624, c_625, c_626⟩ | ⟨rfl, rfl, c_627, c_628, c_629⟩ | ⟨rfl, rfl, c_630, c_631, c_632⟩ | ⟨rfl, rfl, c_633, c_634, c_635⟩
    ·
      exact absurd c_588 (by decide)
    ·
      exact absurd c_590 (by decide)
    ·
      exact absurd c_593 (by decide)
    ·
      exact absurd c_596 (by decide)
    ·
      exact absurd c_599 (by decide)
    ·
      exact absurd c_602 (by decide)
    ·
      exact absurd c_605 (by decide)
    ·
      exact absurd c_608 (by decide)
    ·
      exact absurd c_611 (by decide)
    ·
      exact absurd c_614 (by decide)
    ·
      have hP : va_P G.1 vwCl [(aout, .inl (G.2.2.2.2, 1, .inr (.inl (vp_updL (fun _ => 0) 0 0)))), (x0, .inr (11, ofL 17 Fx0)), (x3, .inr (7, ofL 5 Fx3)), (x4, .inr (8, ofL 5 Fx4)), (x8, .inr (3, ofL 12 Fx8)), (x31, .inr (1, ofL 10 Fx31)), (x2, .inl (G.2.1, 3, .inl (fun _ => 0))), (m14, .inl (G.2.1, 3, .inl (fun _ => 0))), (m0, .inr (12, ofL 88 (updV Fm0 0 (.int 0))))] H := hP
      have hD : va_D A [(aout, .inl (G.2.2.2.2, 1, .inr (.inl (vp_updL (fun _ => 0) 0 0)))), (x0, .inr (11, ofL 17 Fx0)), (x3, .inr (7, ofL 5 Fx3)), (x4, .inr (8, ofL 5 Fx4)), (x8, .inr (3, ofL 12 Fx8)), (x31, .inr (1, ofL 10 Fx31)), (x2, .inl (G.2.1, 3, .inl (fun _ => 0))), (m14, .inl (G.2.1, 3, .inl (fun _ => 0))), (m0, .inr (12, ofL 88 (updV Fm0 0 (.int 0))))] := hD
      refine lv_istore (lv' := [(6, .int 0), (5, .int 0), (0, .ref b), (1, .ref x0), (2, .ref m0), (3, .ref aout), (4, .int 0)]) hx hb dL_law_377 hl (by decide) rfl (fun ls hl => ?_)
      refine lv_aload_n hx hb dL_law_379 rfl (lv_at hl 4 rfl) ?_
      refine k_callVi (wr := [(aout, .inl (G.2.2.2.2, 1, .inr (.inl (vp_updL (fun _ => 0) 0 0)))), (x0, .inr (11, ofL 17 Fx0)), (x3, .inr (7, ofL 5 Fx3)), (x4, .inr (8, ofL 5 Fx4)), (x8, .inr (3, ofL 12 Fx8)), (x31, .inr (1, ofL 10 Fx31)), (x2, .inl (G.2.1, 3, .inl (fun _ => 0))), (m14, .inl (G.2.1, 3, .inl (fun _ => 0)))]) (rest := []) li_L_118 C (c_X12_thrown l G H.size m0 (updV Fm0 0 (.int 0)) 0 rfl) (kR rfl) hP hD hS [8] [0, 1, 2, 3, 4, 5, 6, 7] rfl rfl rfl rfl (by decide) 0 12 rfl rfl rfl hl.1 rfl (Nat.le_of_ble_eq_true rfl) dL_law_380 (fun rr637 uu638 H locs hw636 hP hD hS => ?_)
      obtain rfl : rr637 = 0 := hw636
      have hP : va_P G.1 vwCl [(aout, .inl (G.2.2.2.2, 1, .inr (.inl (vp_updL (fun _ => 0) 0 0)))), (x0, .inr (11, ofL 17 Fx0)), (x3, .inr (7, ofL 5 Fx3)), (x4, .inr (8, ofL 5 Fx4)), (x8, .inr (3, ofL 12 Fx8)), (x31, .inr (1, ofL 10 Fx31)), (x2, .inl (G.2.1, 3, .inl (fun _ => 0))), (m14, .inl (G.2.1, 3, .inl (fun _ => 0))), (m0, .inr (12, ofL 88 (updV Fm0 0 (.int 0))))] H := hP
      have hD : va_D A [(aout, .inl (G.2.2.2.2, 1, .inr (.inl (vp_updL (fun _ => 0) 0 0)))), (x0, .inr (11, ofL 17 Fx0)), (x3, .inr (7, ofL 5 Fx3)), (x4, .inr (8, ofL 5 Fx4)), (x8, .inr (3, ofL 12 Fx8)), (x31, .inr (1, ofL 10 Fx31)), (x2, .inl (G.2.1, 3, .inl (fun _ => 0))), (m14, .inl (G.2.1, 3, .inl (fun _ => 0))), (m0, .inr (12, ofL 88 (updV Fm0 0 (.int 0))))] := hD
      refine lv_iload hx hb dL_law_383 (lv_at hl 1 rfl) ?_
      refine lv_icmp_eq (x := 0) (y := 0) (tgt := 390) hx hb dL_law_385 (by decide) (fun c_639 => ?_) (fun c_639 => ?_)
      rotate_left
      · exact absurd (by decide) c_639
      refine lv_iload hx hb dL_law_390 (lv_at hl 1 rfl) ?_
      refine lv_if_ne (x := 0) (tgt := 407) hx hb dL_law_392 (by decide) (fun c_640 => ?_) (fun c_640 => ?_)
      · exact absurd (by decide) c_640
      refine lv_aload_n hx hb dL_law_395 rfl (lv_at hl 5 rfl) ?_
      refine lv_iconst (v := 0) hx hb dL_law_396 (by decide) ?_
      refine k_lald C hP 0 rfl (k_in (by decide)) dL_law_397 ?_
      refine k_eql (y := 0) rfl ?_
      refine lv_iload hx hb dL_law_398 (lv_at hl 0 rfl) ?_
      refine lv_i2l (v := 0) hx hb dL_law_400 (by decide) ?_
      refine W.lcmp hx hb dL_law_401 ?_
      refine k_eqi (y := 0) (by decide) ?_
      refine lv_if_eq (x := 0) (tgt := 407) hx hb dL_law_402 (by decide) (fun c_641 => ?_) (fun c_641 => ?_)
      rotate_left
      · exact absurd (by decide) c_641
      refine lv_goto (tgt := 2265) hx hb dL_law_407 (by decide) ?_
      exact law_end hst C0 hA C hS (lv_sub hl [2, 6] rfl) (Nat.le_of_ble_eq_true rfl) (Nat.le_of_ble_eq_true rfl)
    ·
      exact absurd c_620 (by decide)
    ·
      exact absurd c_623 (by decide)
    ·
      exact absurd c_626 (by decide)
    ·
      exact absurd c_629 (by decide)
    ·
      exact absurd c_632 (by decide)
    ·
      exact absurd c_635 (by decide)
  ·
    have hP : va_P G.1 vwCl [(m0, .inr (12, ofL 88 Fm0)), (m14, .inl (G.2.1, 3, .inl (fun _ => 0))), (aout, .inl (G.2.2.2.2, 1, .inr (.inl (vp_updL (fun _ => 0) 0 0)))), (x0, .inr (11, ofL 17 Fx0)), (x3, .inr (7, ofL 5 Fx3)), (x4, .inr (8, ofL 5 Fx4)), (x8, .inr (3, ofL 12 Fx8)), (x31, .inr (1, ofL 10 Fx31)), (x2, .inl (G.2.1, 3, .inl (fun _ => 0)))] H := hP
    have hD : va_D A [(m0, .inr (12, ofL 88 Fm0)), (m14, .inl (G.2.1, 3, .inl (fun _ => 0))), (aout, .inl (G.2.2.2.2, 1, .inr (.inl (vp_updL (fun _ => 0) 0 0)))), (x0, .inr (11, ofL 17 Fx0)), (x3, .inr (7, ofL 5 Fx3)), (x4, .inr (8, ofL 5 Fx4)), (x8, .inr (3, ofL 12 Fx8)), (x31, .inr (1, ofL 10 Fx31)), (x2, .inl (G.2.1, 3, .inl (fun _ => 0)))] := hD
    refine lv_istore (lv' := [(5, .int 0), (0, .ref b), (1, .ref x0), (2, .ref m0), (3, .ref aout), (4, .int 0)]) hx hb dL_law_365 hl (by decide) rfl (fun ls hl => ?_)
    refine lv_aload_n hx hb dL_law_367 rfl (lv_at hl 3 rfl) ?_
    refine lv_aload_n hx hb dL_law_368 rfl (lv_at hl 1 rfl) ?_
    refine lv_iload hx hb dL_law_369 (lv_at hl 5 rfl) ?_
    refine lv_iconst (v := 1) hx hb dL_law_371 (by decide) ?_
    refine lv_iadd hx hb dL_law_372 ?_
    refine k_eqi (y := 1) (by decide) ?_
    refine va_sld hx hb hX hbl hbA hS (k_in (by decide)) dL_law_373 ?_
    refine k_eqi (y := 9) hv1 ?_
    refine k_callVi (wr := [(aout, .inl (G.2.2.2.2, 1, .inr (.inl (vp_updL (fun _ => 0) 0 0)))), (x0, .inr (11, ofL 17 Fx0)), (x3, .inr (7, ofL 5 Fx3)), (x4, .inr (8, ofL 5 Fx4)), (x8, .inr (3, ofL 12 Fx8)), (x31, .inr (1, ofL 10 Fx31)), (x2, .inl (G.2.1, 3, .inl (fun _ => 0)))]) (rest := []) li_L_128 C (c_X12_count l G H.size m0 9 Fm0 m14 e_m0_1 e_m0_2 e_m0_52 e_m0_3 e_m0_4 e_m0_62 e_m0_73 e_m0_18 e_m0_21) (kR rfl) hP hD hS [0, 1] [2, 3, 4, 5, 6, 7, 8] rfl rfl rfl rfl (by decide) 0 12 rfl rfl rfl hl.1 rfl (Nat.le_of_ble_eq_true rfl) dL_law_374 (fun rr643 uu644 H locs hw642 hP hD hS => ?_)
    rcases hw642 with ⟨rfl, rfl, c_645⟩ | ⟨rfl, rfl, c_646, c_647⟩ | ⟨rfl, rfl, c_648, c_649, c_650⟩ | ⟨rfl, rfl, c_651, c_652, c_653⟩ | ⟨rfl, rfl, c_654, c_655, c_656⟩ | ⟨rfl, rfl, c_657, c_658, c_659⟩ | ⟨rfl, rfl, c_660, c_661, c_662⟩ | ⟨rfl, rfl, c_663, c_664, c_665⟩ | ⟨rfl, rfl, c_666, c_667, c_668⟩ | ⟨rfl, rfl, c_669, c_670, c_671⟩ | ⟨rfl, rfl, c_672, c_673, c_674⟩ | ⟨rfl, rfl, c_675, c_676, c_677⟩ | ⟨rfl, rfl, c_678, c_679, c_680⟩ | ⟨rfl, rfl, c_681, c_682, c_683⟩ | ⟨rfl, rfl, c_684, c_685, c_686⟩ | ⟨rfl, rfl, c_687, c_688, c_689⟩ | ⟨rfl, rfl, c_690, c_691, c_692⟩
    ·
      exact absurd c_645 (by decide)
    ·
      exact absurd c_647 (by decide)
    ·
      exact absurd c_650 (by decide)
    ·
      exact absurd c_653 (by decide)
    ·
      exact absurd c_656 (by decide)
    ·
      exact absurd c_659 (by decide)
    ·
      exact absurd c_662 (by decide)
    ·
      exact absurd c_665 (by decide)
    ·
      exact absurd c_668 (by decide)
    ·
      exact absurd c_671 (by decide)
    ·
      exact absurd c_674 (by decide)
    ·
      have hP : va_P G.1 vwCl [(aout, .inl (G.2.2.2.2, 1, .inr (.inl (vp_updL (fun _ => 0) 0 0)))), (x0, .inr (11, ofL 17 Fx0)), (x3, .inr (7, ofL 5 Fx3)), (x4, .inr (8, ofL 5 Fx4)), (x8, .inr (3, ofL 12 Fx8)), (x31, .inr (1, ofL 10 Fx31)), (x2, .inl (G.2.1, 3, .inl (fun _ => 0))), (m14, .inl (G.2.1, 3, .inl (fun _ => 0))), (m0, .inr (12, ofL 88 (updV Fm0 0 (.int 0))))] H := hP
      have hD : va_D A [(aout, .inl (G.2.2.2.2, 1, .inr (.inl (vp_updL (fun _ => 0) 0 0)))), (x0, .inr (11, ofL 17 Fx0)), (x3, .inr (7, ofL 5 Fx3)), (x4, .inr (8, ofL 5 Fx4)), (x8, .inr (3, ofL 12 Fx8)), (x31, .inr (1, ofL 10 Fx31)), (x2, .inl (G.2.1, 3, .inl (fun _ => 0))), (m14, .inl (G.2.1, 3, .inl (fun _ => 0))), (m0, .inr (12, ofL 88 (updV Fm0 0 (.int 0))))] := hD
      refine lv_istore (lv' := [(6, .int 0), (5, .int 0), (0, .ref b), (1, .ref x0), (2, .ref m0), (3, .ref aout), (4, .int 0)]) hx hb dL_law_377 hl (by decide) rfl (fun ls hl => ?_)
      refine lv_aload_n hx hb dL_law_379 rfl (lv_at hl 4 rfl) ?_
      refine k_callVi (wr := [(aout, .inl (G.2.2.2.2, 1, .inr (.inl (vp_updL (fun _ => 0) 0 0)))), (x0, .inr (11, ofL 17 Fx0)), (x3, .inr (7, ofL 5 Fx3)), (x4, .inr (8, ofL 5 Fx4)), (x8, .inr (3, ofL 12 Fx8)), (x31, .inr (1, ofL 10 Fx31)), (x2, .inl (G.2.1, 3, .inl (fun _ => 0))), (m14, .inl (G.2.1, 3, .inl (fun _ => 0)))]) (rest := []) li_L_118 C (c_X12_thrown l G H.size m0 (updV Fm0 0 (.int 0)) 0 rfl) (kR rfl) hP hD hS [8] [0, 1, 2, 3, 4, 5, 6, 7] rfl rfl rfl rfl (by decide) 0 12 rfl rfl rfl hl.1 rfl (Nat.le_of_ble_eq_true rfl) dL_law_380 (fun rr694 uu695 H locs hw693 hP hD hS => ?_)
      obtain rfl : rr694 = 0 := hw693
      have hP : va_P G.1 vwCl [(aout, .inl (G.2.2.2.2, 1, .inr (.inl (vp_updL (fun _ => 0) 0 0)))), (x0, .inr (11, ofL 17 Fx0)), (x3, .inr (7, ofL 5 Fx3)), (x4, .inr (8, ofL 5 Fx4)), (x8, .inr (3, ofL 12 Fx8)), (x31, .inr (1, ofL 10 Fx31)), (x2, .inl (G.2.1, 3, .inl (fun _ => 0))), (m14, .inl (G.2.1, 3, .inl (fun _ => 0))), (m0, .inr (12, ofL 88 (updV Fm0 0 (.int 0))))] H := hP
      have hD : va_D A [(aout, .inl (G.2.2.2.2, 1, .inr (.inl (vp_updL (fun _ => 0) 0 0)))), (x0, .inr (11, ofL 17 Fx0)), (x3, .inr (7, ofL 5 Fx3)), (x4, .inr (8, ofL 5 Fx4)), (x8, .inr (3, ofL 12 Fx8)), (x31, .inr (1, ofL 10 Fx31)), (x2, .inl (G.2.1, 3, .inl (fun _ => 0))), (m14, .inl (G.2.1, 3, .inl (fun _ => 0))), (m0, .inr (12, ofL 88 (updV Fm0 0 (.int 0))))] := hD
      refine lv_iload hx hb dL_law_383 (lv_at hl 1 rfl) ?_
      refine lv_icmp_eq (x := 0) (y := 0) (tgt := 390) hx hb dL_law_385 (by decide) (fun c_696 => ?_) (fun c_696 => ?_)
      rotate_left
      · exact absurd (by decide) c_696
      refine lv_iload hx hb dL_law_390 (lv_at hl 1 rfl) ?_
      refine lv_if_ne (x := 0) (tgt := 407) hx hb dL_law_392 (by decide) (fun c_697 => ?_) (fun c_697 => ?_)
      · exact absurd (by decide) c_697
      refine lv_aload_n hx hb dL_law_395 rfl (lv_at hl 5 rfl) ?_
      refine lv_iconst (v := 0) hx hb dL_law_396 (by decide) ?_
      refine k_lald C hP 0 rfl (k_in (by decide)) dL_law_397 ?_
      refine k_eql (y := 0) rfl ?_
      refine lv_iload hx hb dL_law_398 (lv_at hl 0 rfl) ?_
      refine lv_i2l (v := 0) hx hb dL_law_400 (by decide) ?_
      refine W.lcmp hx hb dL_law_401 ?_
      refine k_eqi (y := 0) (by decide) ?_
      refine lv_if_eq (x := 0) (tgt := 407) hx hb dL_law_402 (by decide) (fun c_698 => ?_) (fun c_698 => ?_)
      rotate_left
      · exact absurd (by decide) c_698
      refine lv_goto (tgt := 2265) hx hb dL_law_407 (by decide) ?_
      exact law_end hst C0 hA C hS (lv_sub hl [2, 6] rfl) (Nat.le_of_ble_eq_true rfl) (Nat.le_of_ble_eq_true rfl)
    ·
      exact absurd c_680 (by decide)
    ·
      exact absurd c_683 (by decide)
    ·
      exact absurd c_686 (by decide)
    ·
      exact absurd c_689 (by decide)
    ·
      exact absurd c_692 (by decide)
  ·
    have hP : va_P G.1 vwCl [(m0, .inr (12, ofL 88 Fm0)), (m14, .inl (G.2.1, 3, .inl (fun _ => 0))), (aout, .inl (G.2.2.2.2, 1, .inr (.inl (vp_updL (fun _ => 0) 0 0)))), (x0, .inr (11, ofL 17 Fx0)), (x3, .inr (7, ofL 5 Fx3)), (x4, .inr (8, ofL 5 Fx4)), (x8, .inr (3, ofL 12 Fx8)), (x31, .inr (1, ofL 10 Fx31)), (x2, .inl (G.2.1, 3, .inl (fun _ => 0)))] H := hP
    have hD : va_D A [(m0, .inr (12, ofL 88 Fm0)), (m14, .inl (G.2.1, 3, .inl (fun _ => 0))), (aout, .inl (G.2.2.2.2, 1, .inr (.inl (vp_updL (fun _ => 0) 0 0)))), (x0, .inr (11, ofL 17 Fx0)), (x3, .inr (7, ofL 5 Fx3)), (x4, .inr (8, ofL 5 Fx4)), (x8, .inr (3, ofL 12 Fx8)), (x31, .inr (1, ofL 10 Fx31)), (x2, .inl (G.2.1, 3, .inl (fun _ => 0)))] := hD
    refine lv_istore (lv' := [(5, .int 0), (0, .ref b), (1, .ref x0), (2, .ref m0), (3, .ref aout), (4, .int 0)]) hx hb dL_law_365 hl (by decide) rfl (fun ls hl => ?_)
    refine lv_aload_n hx hb dL_law_367 rfl (lv_at hl 3 rfl) ?_
    refine lv_aload_n hx hb dL_law_368 rfl (lv_at hl 1 rfl) ?_
    refine lv_iload hx hb dL_law_369 (lv_at hl 5 rfl) ?_
    refine lv_iconst (v := 1) hx hb dL_law_371 (by decide) ?_
    refine lv_iadd hx hb dL_law_372 ?_
    refine k_eqi (y := 1) (by decide) ?_
    refine va_sld hx hb hX hbl hbA hS (k_in (by decide)) dL_law_373 ?_
    refine k_eqi (y := 10) hv1 ?_
    refine k_callVi (wr := [(aout, .inl (G.2.2.2.2, 1, .inr (.inl (vp_updL (fun _ => 0) 0 0)))), (x0, .inr (11, ofL 17 Fx0)), (x3, .inr (7, ofL 5 Fx3)), (x4, .inr (8, ofL 5 Fx4)), (x8, .inr (3, ofL 12 Fx8)), (x31, .inr (1, ofL 10 Fx31)), (x2, .inl (G.2.1, 3, .inl (fun _ => 0)))]) (rest := []) li_L_128 C (c_X12_count l G H.size m0 10 Fm0 m14 e_m0_1 e_m0_2 e_m0_52 e_m0_3 e_m0_4 e_m0_62 e_m0_73 e_m0_18 e_m0_21) (kR rfl) hP hD hS [0, 1] [2, 3, 4, 5, 6, 7, 8] rfl rfl rfl rfl (by decide) 0 12 rfl rfl rfl hl.1 rfl (Nat.le_of_ble_eq_true rfl) dL_law_374 (fun rr700 uu701 H locs hw699 hP hD hS => ?_)
    rcases hw699 with ⟨rfl, rfl, c_702⟩ | ⟨rfl, rfl, c_703, c_704⟩ | ⟨rfl, rfl, c_705, c_706, c_707⟩ | ⟨rfl, rfl, c_708, c_709, c_710⟩ | ⟨rfl, rfl, c_711, c_712, c_713⟩ | ⟨rfl, rfl, c_714, c_715, c_716⟩ | ⟨rfl, rfl, c_717, c_718, c_719⟩ | ⟨rfl, rfl, c_720, c_721, c_722⟩ | ⟨rfl, rfl, c_723, c_724, c_725⟩ | ⟨rfl, rfl, c_726, c_727, c_728⟩ | ⟨rfl, rfl, c_729, c_730, c_731⟩ | ⟨rfl, rfl, c_732, c_733, c_734⟩ | ⟨rfl, rfl, c_735, c_736, c_737⟩ | ⟨rfl, rfl, c_738, c_739, c_740⟩ | ⟨rfl, rfl, c_741, c_742, c_743⟩ | ⟨rfl, rfl, c_744, c_745, c_746⟩ | ⟨rfl, rfl, c_747, c_748, c_749⟩
    ·
      exact absurd c_702 (by decide)
    ·
      exact absurd c_704 (by decide)
    ·
      exact absurd c_707 (by decide)
    ·
      exact absurd c_710 (by decide)
    ·
      exact absurd c_713 (by decide)
    ·
      exact absurd c_716 (by decide)
    ·
      exact absurd c_719 (by decide)
    ·
      exact absurd c_722 (by decide)
    ·
      exact absurd c_725 (by decide)
    ·
      exact absurd c_728 (by decide)
    ·
      exact absurd c_731 (by decide)
    ·
      exact absurd c_734 (by decide)
    ·
      have hP : va_P G.1 vwCl [(aout, .inl (G.2.2.2.2, 1, .inr (.inl (vp_updL (fun _ => 0) 0 0)))), (x0, .inr (11, ofL 17 Fx0)), (x3, .inr (7, ofL 5 Fx3)), (x4, .inr (8, ofL 5 Fx4)), (x8, .inr (3, ofL 12 Fx8)), (x31, .inr (1, ofL 10 Fx31)), (x2, .inl (G.2.1, 3, .inl (fun _ => 0))), (m14, .inl (G.2.1, 3, .inl (fun _ => 0))), (m0, .inr (12, ofL 88 (updV Fm0 0 (.int 0))))] H := hP
      have hD : va_D A [(aout, .inl (G.2.2.2.2, 1, .inr (.inl (vp_updL (fun _ => 0) 0 0)))), (x0, .inr (11, ofL 17 Fx0)), (x3, .inr (7, ofL 5 Fx3)), (x4, .inr (8, ofL 5 Fx4)), (x8, .inr (3, ofL 12 Fx8)), (x31, .inr (1, ofL 10 Fx31)), (x2, .inl (G.2.1, 3, .inl (fun _ => 0))), (m14, .inl (G.2.1, 3, .inl (fun _ => 0))), (m0, .inr (12, ofL 88 (updV Fm0 0 (.int 0))))] := hD
      refine lv_istore (lv' := [(6, .int 0), (5, .int 0), (0, .ref b), (1, .ref x0), (2, .ref m0), (3, .ref aout), (4, .int 0)]) hx hb dL_law_377 hl (by decide) rfl (fun ls hl => ?_)
      refine lv_aload_n hx hb dL_law_379 rfl (lv_at hl 4 rfl) ?_
      refine k_callVi (wr := [(aout, .inl (G.2.2.2.2, 1, .inr (.inl (vp_updL (fun _ => 0) 0 0)))), (x0, .inr (11, ofL 17 Fx0)), (x3, .inr (7, ofL 5 Fx3)), (x4, .inr (8, ofL 5 Fx4)), (x8, .inr (3, ofL 12 Fx8)), (x31, .inr (1, ofL 10 Fx31)), (x2, .inl (G.2.1, 3, .inl (fun _ => 0))), (m14, .inl (G.2.1, 3, .inl (fun _ => 0)))]) (rest := []) li_L_118 C (c_X12_thrown l G H.size m0 (updV Fm0 0 (.int 0)) 0 rfl) (kR rfl) hP hD hS [8] [0, 1, 2, 3, 4, 5, 6, 7] rfl rfl rfl rfl (by decide) 0 12 rfl rfl rfl hl.1 rfl (Nat.le_of_ble_eq_true rfl) dL_law_380 (fun rr751 uu752 H locs hw750 hP hD hS => ?_)
      obtain rfl : rr751 = 0 := hw750
      have hP : va_P G.1 vwCl [(aout, .inl (G.2.2.2.2, 1, .inr (.inl (vp_updL (fun _ => 0) 0 0)))), (x0, .inr (11, ofL 17 Fx0)), (x3, .inr (7, ofL 5 Fx3)), (x4, .inr (8, ofL 5 Fx4)), (x8, .inr (3, ofL 12 Fx8)), (x31, .inr (1, ofL 10 Fx31)), (x2, .inl (G.2.1, 3, .inl (fun _ => 0))), (m14, .inl (G.2.1, 3, .inl (fun _ => 0))), (m0, .inr (12, ofL 88 (updV Fm0 0 (.int 0))))] H := hP
      have hD : va_D A [(aout, .inl (G.2.2.2.2, 1, .inr (.inl (vp_updL (fun _ => 0) 0 0)))), (x0, .inr (11, ofL 17 Fx0)), (x3, .inr (7, ofL 5 Fx3)), (x4, .inr (8, ofL 5 Fx4)), (x8, .inr (3, ofL 12 Fx8)), (x31, .inr (1, ofL 10 Fx31)), (x2, .inl (G.2.1, 3, .inl (fun _ => 0))), (m14, .inl (G.2.1, 3, .inl (fun _ => 0))), (m0, .inr (12, ofL 88 (updV Fm0 0 (.int 0))))] := hD
      refine lv_iload hx hb dL_law_383 (lv_at hl 1 rfl) ?_
      refine lv_icmp_eq (x := 0) (y := 0) (tgt := 390) hx hb dL_law_385 (by decide) (fun c_753 => ?_) (fun c_753 => ?_)
      rotate_left
      · exact absurd (by decide) c_753
      refine lv_iload hx hb dL_law_390 (lv_at hl 1 rfl) ?_
      refine lv_if_ne (x := 0) (tgt := 407) hx hb dL_law_392 (by decide) (fun c_754 => ?_) (fun c_754 => ?_)
      · exact absurd (by decide) c_754
      refine lv_aload_n hx hb dL_law_395 rfl (lv_at hl 5 rfl) ?_
      refine lv_iconst (v := 0) hx hb dL_law_396 (by decide) ?_
      refine k_lald C hP 0 rfl (k_in (by decide)) dL_law_397 ?_
      refine k_eql (y := 0) rfl ?_
      refine lv_iload hx hb dL_law_398 (lv_at hl 0 rfl) ?_
      refine lv_i2l (v := 0) hx hb dL_law_400 (by decide) ?_
      refine W.lcmp hx hb dL_law_401 ?_
      refine k_eqi (y := 0) (by decide) ?_
      refine lv_if_eq (x := 0) (tgt := 407) hx hb dL_law_402 (by decide) (fun c_755 => ?_) (fun c_755 => ?_)
      rotate_left
      · exact absurd (by decide) c_755
      refine lv_goto (tgt := 2265) hx hb dL_law_407 (by decide) ?_
      exact law_end hst C0 hA C hS (lv_sub hl [2, 6] rfl) (Nat.le_of_ble_eq_true rfl) (Nat.le_of_ble_eq_true rfl)
    ·
      exact absurd c_740 (by decide)
    ·
      exact absurd c_743 (by decide)
    ·
      exact absurd c_746 (by decide)
    ·
      exact absurd c_749 (by decide)
  ·
    have hP : va_P G.1 vwCl [(m0, .inr (12, ofL 88 Fm0)), (m14, .inl (G.2.1, 3, .inl (fun _ => 0))), (aout, .inl (G.2.2.2.2, 1, .inr (.inl (vp_updL (fun _ => 0) 0 0)))), (x0, .inr (11, ofL 17 Fx0)), (x3, .inr (7, ofL 5 Fx3)), (x4, .inr (8, ofL 5 Fx4)), (x8, .inr (3, ofL 12 Fx8)), (x31, .inr (1, ofL 10 Fx31)), (x2, .inl (G.2.1, 3, .inl (fun _ => 0)))] H := hP
    have hD : va_D A [(m0, .inr (12, ofL 88 Fm0)), (m14, .inl (G.2.1, 3, .inl (fun _ => 0))), (aout, .inl (G.2.2.2.2, 1, .inr (.inl (vp_updL (fun _ => 0) 0 0)))), (x0, .inr (11, ofL 17 Fx0)), (x3, .inr (7, ofL 5 Fx3)), (x4, .inr (8, ofL 5 Fx4)), (x8, .inr (3, ofL 12 Fx8)), (x31, .inr (1, ofL 10 Fx31)), (x2, .inl (G.2.1, 3, .inl (fun _ => 0)))] := hD
    refine lv_istore (lv' := [(5, .int 0), (0, .ref b), (1, .ref x0), (2, .ref m0), (3, .ref aout), (4, .int 0)]) hx hb dL_law_365 hl (by decide) rfl (fun ls hl => ?_)
    refine lv_aload_n hx hb dL_law_367 rfl (lv_at hl 3 rfl) ?_
    refine lv_aload_n hx hb dL_law_368 rfl (lv_at hl 1 rfl) ?_
    refine lv_iload hx hb dL_law_369 (lv_at hl 5 rfl) ?_
    refine lv_iconst (v := 1) hx hb dL_law_371 (by decide) ?_
    refine lv_iadd hx hb dL_law_372 ?_
    refine k_eqi (y := 1) (by decide) ?_
    refine va_sld hx hb hX hbl hbA hS (k_in (by decide)) dL_law_373 ?_
    refine k_eqi (y := 11) hv1 ?_
    refine k_callVi (wr := [(aout, .inl (G.2.2.2.2, 1, .inr (.inl (vp_updL (fun _ => 0) 0 0)))), (x0, .inr (11, ofL 17 Fx0)), (x3, .inr (7, ofL 5 Fx3)), (x4, .inr (8, ofL 5 Fx4)), (x8, .inr (3, ofL 12 Fx8)), (x31, .inr (1, ofL 10 Fx31)), (x2, .inl (G.2.1, 3, .inl (fun _ => 0)))]) (rest := []) li_L_128 C (c_X12_count l G H.size m0 11 Fm0 m14 e_m0_1 e_m0_2 e_m0_52 e_m0_3 e_m0_4 e_m0_62 e_m0_73 e_m0_18 e_m0_21) (kR rfl) hP hD hS [0, 1] [2, 3, 4, 5, 6, 7, 8] rfl rfl rfl rfl (by decide) 0 12 rfl rfl rfl hl.1 rfl (Nat.le_of_ble_eq_true rfl) dL_law_374 (fun rr757 uu758 H locs hw756 hP hD hS => ?_)
    rcases hw756 with ⟨rfl, rfl, c_759⟩ | ⟨rfl, rfl, c_760, c_761⟩ | ⟨rfl, rfl, c_762, c_763, c_764⟩ | ⟨rfl, rfl, c_765, c_766, c_767⟩ | ⟨rfl, rfl, c_768, c_769, c_770⟩ | ⟨rfl, rfl, c_771, c_772, c_773⟩ | ⟨rfl, rfl, c_774, c_775, c_776⟩ | ⟨rfl, rfl, c_777, c_778, c_779⟩ | ⟨rfl, rfl, c_780, c_781, c_782⟩ | ⟨rfl, rfl, c_783, c_784, c_785⟩ | ⟨rfl, rfl, c_786, c_787, c_788⟩ | ⟨rfl, rfl, c_789, c_790, c_791⟩ | ⟨rfl, rfl, c_792, c_793, c_794⟩ | ⟨rfl, rfl, c_795, c_796, c_797⟩ | ⟨rfl, rfl, c_798, c_799, c_800⟩ | ⟨rfl, rfl, c_801, c_802, c_803⟩ | ⟨rfl, rfl, c_804, c_805, c_806⟩
    ·
      exact absurd c_759 (by decide)
    ·
      exact absurd c_761 (by decide)
    ·
      exact absurd c_764 (by decide)
    ·
      exact absurd c_767 (by decide)
    ·
      exact absurd c_770 (by decide)
    ·
      exact absurd c_773 (by decide)
    ·
      exact absurd c_776 (by decide)
    ·
      exact absurd c_779 (by decide)
    ·
      exact absurd c_782 (by decide)
    ·
      exact absurd c_785 (by decide)
    ·
      exact absurd c_788 (by decide)
    ·
      exact absurd c_791 (by decide)
    ·
      exact absurd c_794 (by decide)
    ·
      have hP : va_P G.1 vwCl [(aout, .inl (G.2.2.2.2, 1, .inr (.inl (vp_updL (fun _ => 0) 0 0)))), (x0, .inr (11, ofL 17 Fx0)), (x3, .inr (7, ofL 5 Fx3)), (x4, .inr (8, ofL 5 Fx4)), (x8, .inr (3, ofL 12 Fx8)), (x31, .inr (1, ofL 10 Fx31)), (x2, .inl (G.2.1, 3, .inl (fun _ => 0))), (m14, .inl (G.2.1, 3, .inl (fun _ => 0))), (m0, .inr (12, ofL 88 (updV Fm0 0 (.int 0))))] H := hP
      have hD : va_D A [(aout, .inl (G.2.2.2.2, 1, .inr (.inl (vp_updL (fun _ => 0) 0 0)))), (x0, .inr (11, ofL 17 Fx0)), (x3, .inr (7, ofL 5 Fx3)), (x4, .inr (8, ofL 5 Fx4)), (x8, .inr (3, ofL 12 Fx8)), (x31, .inr (1, ofL 10 Fx31)), (x2, .inl (G.2.1, 3, .inl (fun _ => 0))), (m14, .inl (G.2.1, 3, .inl (fun _ => 0))), (m0, .inr (12, ofL 88 (updV Fm0 0 (.int 0))))] := hD
      refine lv_istore (lv' := [(6, .int 0), (5, .int 0), (0, .ref b), (1, .ref x0), (2, .ref m0), (3, .ref aout), (4, .int 0)]) hx hb dL_law_377 hl (by decide) rfl (fun ls hl => ?_)
      refine lv_aload_n hx hb dL_law_379 rfl (lv_at hl 4 rfl) ?_
      refine k_callVi (wr := [(aout, .inl (G.2.2.2.2, 1, .inr (.inl (vp_updL (fun _ => 0) 0 0)))), (x0, .inr (11, ofL 17 Fx0)), (x3, .inr (7, ofL 5 Fx3)), (x4, .inr (8, ofL 5 Fx4)), (x8, .inr (3, ofL 12 Fx8)), (x31, .inr (1, ofL 10 Fx31)), (x2, .inl (G.2.1, 3, .inl (fun _ => 0))), (m14, .inl (G.2.1, 3, .inl (fun _ => 0)))]) (rest := []) li_L_118 C (c_X12_thrown l G H.size m0 (updV Fm0 0 (.int 0)) 0 rfl) (kR rfl) hP hD hS [8] [0, 1, 2, 3, 4, 5, 6, 7] rfl rfl rfl rfl (by decide) 0 12 rfl rfl rfl hl.1 rfl (Nat.le_of_ble_eq_true rfl) dL_law_380 (fun rr808 uu809 H locs hw807 hP hD hS => ?_)
      obtain rfl : rr808 = 0 := hw807
      have hP : va_P G.1 vwCl [(aout, .inl (G.2.2.2.2, 1, .inr (.inl (vp_updL (fun _ => 0) 0 0)))), (x0, .inr (11, ofL 17 Fx0)), (x3, .inr (7, ofL 5 Fx3)), (x4, .inr (8, ofL 5 Fx4)), (x8, .inr (3, ofL 12 Fx8)), (x31, .inr (1, ofL 10 Fx31)), (x2, .inl (G.2.1, 3, .inl (fun _ => 0))), (m14, .inl (G.2.1, 3, .inl (fun _ => 0))), (m0, .inr (12, ofL 88 (updV Fm0 0 (.int 0))))] H := hP
      have hD : va_D A [(aout, .inl (G.2.2.2.2, 1, .inr (.inl (vp_updL (fun _ => 0) 0 0)))), (x0, .inr (11, ofL 17 Fx0)), (x3, .inr (7, ofL 5 Fx3)), (x4, .inr (8, ofL 5 Fx4)), (x8, .inr (3, ofL 12 Fx8)), (x31, .inr (1, ofL 10 Fx31)), (x2, .inl (G.2.1, 3, .inl (fun _ => 0))), (m14, .inl (G.2.1, 3, .inl (fun _ => 0))), (m0, .inr (12, ofL 88 (updV Fm0 0 (.int 0))))] := hD
      refine lv_iload hx hb dL_law_383 (lv_at hl 1 rfl) ?_
      refine lv_icmp_eq (x := 0) (y := 0) (tgt := 390) hx hb dL_law_385 (by decide) (fun c_810 => ?_) (fun c_810 => ?_)
      rotate_left
      · exact absurd (by decide) c_810
      refine lv_iload hx hb dL_law_390 (lv_at hl 1 rfl) ?_
      refine lv_if_ne (x := 0) (tgt := 407) hx hb dL_law_392 (by decide) (fun c_811 => ?_) (fun c_811 => ?_)
      · exact absurd (by decide) c_811
      refine lv_aload_n hx hb dL_law_395 rfl (lv_at hl 5 rfl) ?_
      refine lv_iconst (v := 0) hx hb dL_law_396 (by decide) ?_
      refine k_lald C hP 0 rfl (k_in (by decide)) dL_law_397 ?_
      refine k_eql (y := 0) rfl ?_
      refine lv_iload hx hb dL_law_398 (lv_at hl 0 rfl) ?_
      refine lv_i2l (v := 0) hx hb dL_law_400 (by decide) ?_
      refine W.lcmp hx hb dL_law_401 ?_
      refine k_eqi (y := 0) (by decide) ?_
      refine lv_if_eq (x := 0) (tgt := 407) hx hb dL_law_402 (by decide) (fun c_812 => ?_) (fun c_812 => ?_)
      rotate_left
      · exact absurd (by decide) c_812
      refine lv_goto (tgt := 2265) hx hb dL_law_407 (by decide) ?_
      exact law_end hst C0 hA C hS (lv_sub hl [2, 6] rfl) (Nat.le_of_ble_eq_true rfl) (Nat.le_of_ble_eq_true rfl)
    ·
      exact absurd c_800 (by decide)
    ·
      exact absurd c_803 (by decide)
    ·
      exact absurd c_806 (by decide)
  ·
    have hP : va_P G.1 vwCl [(m0, .inr (12, ofL 88 Fm0)), (m14, .inl (G.2.1, 3, .inl (fun _ => 0))), (aout, .inl (G.2.2.2.2, 1, .inr (.inl (vp_updL (fun _ => 0) 0 0)))), (x4, .inr (8, ofL 5 Fx4)), (x8, .inr (3, ofL 12 Fx8)), (x2, .inl (G.2.1, 3, .inl (fun _ => 0))), (x0, .inr (11, ofL 17 Fx0)), (x31, .inr (1, ofL 10 Fx31)), (x3, .inr (7, ofL 5 Fx3))] H := hP
    have hD : va_D A [(m0, .inr (12, ofL 88 Fm0)), (m14, .inl (G.2.1, 3, .inl (fun _ => 0))), (aout, .inl (G.2.2.2.2, 1, .inr (.inl (vp_updL (fun _ => 0) 0 0)))), (x4, .inr (8, ofL 5 Fx4)), (x8, .inr (3, ofL 12 Fx8)), (x2, .inl (G.2.1, 3, .inl (fun _ => 0))), (x0, .inr (11, ofL 17 Fx0)), (x31, .inr (1, ofL 10 Fx31)), (x3, .inr (7, ofL 5 Fx3))] := hD
    refine lv_istore (lv' := [(5, .int 0), (0, .ref b), (1, .ref x0), (2, .ref m0), (3, .ref aout), (4, .int 0)]) hx hb dL_law_365 hl (by decide) rfl (fun ls hl => ?_)
    refine lv_aload_n hx hb dL_law_367 rfl (lv_at hl 3 rfl) ?_
    refine lv_aload_n hx hb dL_law_368 rfl (lv_at hl 1 rfl) ?_
    refine lv_iload hx hb dL_law_369 (lv_at hl 5 rfl) ?_
    refine lv_iconst (v := 1) hx hb dL_law_371 (by decide) ?_
    refine lv_iadd hx hb dL_law_372 ?_
    refine k_eqi (y := 1) (by decide) ?_
    refine va_sld hx hb hX hbl hbA hS (k_in (by decide)) dL_law_373 ?_
    refine k_eqi (y := 12) hv1 ?_
    refine k_callVi (wr := [(aout, .inl (G.2.2.2.2, 1, .inr (.inl (vp_updL (fun _ => 0) 0 0)))), (x4, .inr (8, ofL 5 Fx4)), (x8, .inr (3, ofL 12 Fx8)), (x2, .inl (G.2.1, 3, .inl (fun _ => 0))), (x0, .inr (11, ofL 17 Fx0)), (x31, .inr (1, ofL 10 Fx31)), (x3, .inr (7, ofL 5 Fx3))]) (rest := []) li_L_128 C (c_X12_count l G H.size m0 12 Fm0 m14 e_m0_1 e_m0_2 e_m0_52 e_m0_3 e_m0_4 e_m0_62 e_m0_73 e_m0_18 e_m0_21) (kR rfl) hP hD hS [0, 1] [2, 3, 4, 5, 6, 7, 8] rfl rfl rfl rfl (by decide) 0 12 rfl rfl rfl hl.1 rfl (Nat.le_of_ble_eq_true rfl) dL_law_374 (fun rr814 uu815 H locs hw813 hP hD hS => ?_)
    rcases hw813 with ⟨rfl, rfl, c_816⟩ | ⟨rfl, rfl, c_817, c_818⟩ | ⟨rfl, rfl, c_819, c_820, c_821⟩ | ⟨rfl, rfl, c_822, c_823, c_824⟩ | ⟨rfl, rfl, c_825, c_826, c_827⟩ | ⟨rfl, rfl, c_828, c_829, c_830⟩ | ⟨rfl, rfl, c_831, c_832, c_833⟩ | ⟨rfl, rfl, c_834, c_835, c_836⟩ | ⟨rfl, rfl, c_837, c_838, c_839⟩ | ⟨rfl, rfl, c_840, c_841, c_842⟩ | ⟨rfl, rfl, c_843, c_844, c_845⟩ | ⟨rfl, rfl, c_846, c_847, c_848⟩ | ⟨rfl, rfl, c_849, c_850, c_851⟩ | ⟨rfl, rfl, c_852, c_853, c_854⟩ | ⟨rfl, rfl, c_855, c_856, c_857⟩ | ⟨rfl, rfl, c_858, c_859, c_860⟩ | ⟨rfl, rfl, c_861, c_862, c_863⟩
    ·
      exact absurd c_816 (by decide)
    ·
      exact absurd c_818 (by decide)
    ·
      exact absurd c_821 (by decide)
    ·
      exact absurd c_824 (by decide)
    ·
      exact absurd c_827 (by decide)
    ·
      exact absurd c_830 (by decide)
    ·
      exact absurd c_833 (by decide)
    ·
      exact absurd c_836 (by decide)
    ·
      exact absurd c_839 (by decide)
    ·
      exact absurd c_842 (by decide)
    ·
      exact absurd c_845 (by decide)
    ·
      exact absurd c_848 (by decide)
    ·
      exact absurd c_851 (by decide)
    ·
      exact absurd c_854 (by decide)
    ·
      have hP : va_P G.1 vwCl [(aout, .inl (G.2.2.2.2, 1, .inr (.inl (vp_updL (fun _ => 0) 0 0)))), (x4, .inr (8, ofL 5 Fx4)), (x8, .inr (3, ofL 12 Fx8)), (x2, .inl (G.2.1, 3, .inl (fun _ => 0))), (x0, .inr (11, ofL 17 Fx0)), (x31, .inr (1, ofL 10 Fx31)), (x3, .inr (7, ofL 5 Fx3)), (m14, .inl (G.2.1, 3, .inl (fun _ => 0))), (m0, .inr (12, ofL 88 (updV Fm0 0 (.int 0))))] H := hP
      have hD : va_D A [(aout, .inl (G.2.2.2.2, 1, .inr (.inl (vp_updL (fun _ => 0) 0 0)))), (x4, .inr (8, ofL 5 Fx4)), (x8, .inr (3, ofL 12 Fx8)), (x2, .inl (G.2.1, 3, .inl (fun _ => 0))), (x0, .inr (11, ofL 17 Fx0)), (x31, .inr (1, ofL 10 Fx31)), (x3, .inr (7, ofL 5 Fx3)), (m14, .inl (G.2.1, 3, .inl (fun _ => 0))), (m0, .inr (12, ofL 88 (updV Fm0 0 (.int 0))))] := hD
      refine lv_istore (lv' := [(6, .int 0), (5, .int 0), (0, .ref b), (1, .ref x0), (2, .ref m0), (3, .ref aout), (4, .int 0)]) hx hb dL_law_377 hl (by decide) rfl (fun ls hl => ?_)
      refine lv_aload_n hx hb dL_law_379 rfl (lv_at hl 4 rfl) ?_
      refine k_callVi (wr := [(aout, .inl (G.2.2.2.2, 1, .inr (.inl (vp_updL (fun _ => 0) 0 0)))), (x4, .inr (8, ofL 5 Fx4)), (x8, .inr (3, ofL 12 Fx8)), (x2, .inl (G.2.1, 3, .inl (fun _ => 0))), (x0, .inr (11, ofL 17 Fx0)), (x31, .inr (1, ofL 10 Fx31)), (x3, .inr (7, ofL 5 Fx3)), (m14, .inl (G.2.1, 3, .inl (fun _ => 0)))]) (rest := []) li_L_118 C (c_X12_thrown l G H.size m0 (updV Fm0 0 (.int 0)) 0 rfl) (kR rfl) hP hD hS [8] [0, 1, 2, 3, 4, 5, 6, 7] rfl rfl rfl rfl (by decide) 0 12 rfl rfl rfl hl.1 rfl (Nat.le_of_ble_eq_true rfl) dL_law_380 (fun rr865 uu866 H locs hw864 hP hD hS => ?_)
      obtain rfl : rr865 = 0 := hw864
      have hP : va_P G.1 vwCl [(aout, .inl (G.2.2.2.2, 1, .inr (.inl (vp_updL (fun _ => 0) 0 0)))), (x4, .inr (8, ofL 5 Fx4)), (x8, .inr (3, ofL 12 Fx8)), (x2, .inl (G.2.1, 3, .inl (fun _ => 0))), (x0, .inr (11, ofL 17 Fx0)), (x31, .inr (1, ofL 10 Fx31)), (x3, .inr (7, ofL 5 Fx3)), (m14, .inl (G.2.1, 3, .inl (fun _ => 0))), (m0, .inr (12, ofL 88 (updV Fm0 0 (.int 0))))] H := hP
      have hD : va_D A [(aout, .inl (G.2.2.2.2, 1, .inr (.inl (vp_updL (fun _ => 0) 0 0)))), (x4, .inr (8, ofL 5 Fx4)), (x8, .inr (3, ofL 12 Fx8)), (x2, .inl (G.2.1, 3, .inl (fun _ => 0))), (x0, .inr (11, ofL 17 Fx0)), (x31, .inr (1, ofL 10 Fx31)), (x3, .inr (7, ofL 5 Fx3)), (m14, .inl (G.2.1, 3, .inl (fun _ => 0))), (m0, .inr (12, ofL 88 (updV Fm0 0 (.int 0))))] := hD
      refine lv_iload hx hb dL_law_383 (lv_at hl 1 rfl) ?_
      refine lv_icmp_eq (x := 0) (y := 0) (tgt := 390) hx hb dL_law_385 (by decide) (fun c_867 => ?_) (fun c_867 => ?_)
      rotate_left
      · exact absurd (by decide) c_867
      refine lv_iload hx hb dL_law_390 (lv_at hl 1 rfl) ?_
      refine lv_if_ne (x := 0) (tgt := 407) hx hb dL_law_392 (by decide) (fun c_868 => ?_) (fun c_868 => ?_)
      · exact absurd (by decide) c_868
      refine lv_aload_n hx hb dL_law_395 rfl (lv_at hl 5 rfl) ?_
      refine lv_iconst (v := 0) hx hb dL_law_396 (by decide) ?_
      refine k_lald C hP 0 rfl (k_in (by decide)) dL_law_397 ?_
      refine k_eql (y := 0) rfl ?_
      refine lv_iload hx hb dL_law_398 (lv_at hl 0 rfl) ?_
      refine lv_i2l (v := 0) hx hb dL_law_400 (by decide) ?_
      refine W.lcmp hx hb dL_law_401 ?_
      refine k_eqi (y := 0) (by decide) ?_
      refine lv_if_eq (x := 0) (tgt := 407) hx hb dL_law_402 (by decide) (fun c_869 => ?_) (fun c_869 => ?_)
      rotate_left
      · exact absurd (by decide) c_869
      refine lv_goto (tgt := 2265) hx hb dL_law_407 (by decide) ?_
      exact law_end hst C0 hA C hS (lv_sub hl [2, 6] rfl) (Nat.le_of_ble_eq_true rfl) (Nat.le_of_ble_eq_true rfl)
    ·
      exact absurd c_860 (by decide)
    ·
      exact absurd c_863 (by decide)
  ·
    have hP : va_P G.1 vwCl [(m0, .inr (12, ofL 88 Fm0)), (m14, .inl (G.2.1, 3, .inl (fun _ => 0))), (aout, .inl (G.2.2.2.2, 1, .inr (.inl (vp_updL (fun _ => 0) 0 0)))), (x4, .inr (8, ofL 5 Fx4)), (x8, .inr (3, ofL 12 Fx8)), (x2, .inl (G.2.1, 3, .inl (fun _ => 0))), (x0, .inr (11, ofL 17 Fx0)), (x31, .inr (1, ofL 10 Fx31)), (x3, .inr (7, ofL 5 Fx3))] H := hP
    have hD : va_D A [(m0, .inr (12, ofL 88 Fm0)), (m14, .inl (G.2.1, 3, .inl (fun _ => 0))), (aout, .inl (G.2.2.2.2, 1, .inr (.inl (vp_updL (fun _ => 0) 0 0)))), (x4, .inr (8, ofL 5 Fx4)), (x8, .inr (3, ofL 12 Fx8)), (x2, .inl (G.2.1, 3, .inl (fun _ => 0))), (x0, .inr (11, ofL 17 Fx0)), (x31, .inr (1, ofL 10 Fx31)), (x3, .inr (7, ofL 5 Fx3))] := hD
    refine lv_istore (lv' := [(5, .int 0), (0, .ref b), (1, .ref x0), (2, .ref m0), (3, .ref aout), (4, .int 0)]) hx hb dL_law_365 hl (by decide) rfl (fun ls hl => ?_)
    refine lv_aload_n hx hb dL_law_367 rfl (lv_at hl 3 rfl) ?_
    refine lv_aload_n hx hb dL_law_368 rfl (lv_at hl 1 rfl) ?_
    refine lv_iload hx hb dL_law_369 (lv_at hl 5 rfl) ?_
    refine lv_iconst (v := 1) hx hb dL_law_371 (by decide) ?_
    refine lv_iadd hx hb dL_law_372 ?_
    refine k_eqi (y := 1) (by decide) ?_
    refine va_sld hx hb hX hbl hbA hS (k_in (by decide)) dL_law_373 ?_
    refine k_eqi (y := 13) hv1 ?_
    refine k_callVi (wr := [(aout, .inl (G.2.2.2.2, 1, .inr (.inl (vp_updL (fun _ => 0) 0 0)))), (x4, .inr (8, ofL 5 Fx4)), (x8, .inr (3, ofL 12 Fx8)), (x2, .inl (G.2.1, 3, .inl (fun _ => 0))), (x0, .inr (11, ofL 17 Fx0)), (x31, .inr (1, ofL 10 Fx31)), (x3, .inr (7, ofL 5 Fx3))]) (rest := []) li_L_128 C (c_X12_count l G H.size m0 13 Fm0 m14 e_m0_1 e_m0_2 e_m0_52 e_m0_3 e_m0_4 e_m0_62 e_m0_73 e_m0_18 e_m0_21) (kR rfl) hP hD hS [0, 1] [2, 3, 4, 5, 6, 7, 8] rfl rfl rfl rfl (by decide) 0 12 rfl rfl rfl hl.1 rfl (Nat.le_of_ble_eq_true rfl) dL_law_374 (fun rr871 uu872 H locs hw870 hP hD hS => ?_)
    rcases hw870 with ⟨rfl, rfl, c_873⟩ | ⟨rfl, rfl, c_874, c_875⟩ | ⟨rfl, rfl, c_876, c_877, c_878⟩ | ⟨rfl, rfl, c_879, c_880, c_881⟩ | ⟨rfl, rfl, c_882, c_883, c_884⟩ | ⟨rfl, rfl, c_885, c_886, c_887⟩ | ⟨rfl, rfl, c_888, c_889, c_890⟩ | ⟨rfl, rfl, c_891, c_892, c_893⟩ | ⟨rfl, rfl, c_894, c_895, c_896⟩ | ⟨rfl, rfl, c_897, c_898, c_899⟩ | ⟨rfl, rfl, c_900, c_901, c_902⟩ | ⟨rfl, rfl, c_903, c_904, c_905⟩ | ⟨rfl, rfl, c_906, c_907, c_908⟩ | ⟨rfl, rfl, c_909, c_910, c_911⟩ | ⟨rfl, rfl, c_912, c_913, c_914⟩ | ⟨rfl, rfl, c_915, c_916, c_917⟩ | ⟨rfl, rfl, c_918, c_919, c_920⟩
    ·
      exact absurd c_873 (by decide)
    ·
      exact absurd c_875 (by decide)
    ·
      exact absurd c_878 (by decide)
    ·
      exact absurd c_881 (by decide)
    ·
      exact absurd c_884 (by decide)
    ·
      exact absurd c_887 (by decide)
    ·
      exact absurd c_890 (by decide)
    ·
      exact absurd c_893 (by decide)
    ·
      exact absurd c_896 (by decide)
    ·
      exact absurd c_899 (by decide)
    ·
      exact absurd c_902 (by decide)
    ·
      exact absurd c_905 (by decide)
    ·
      exact absurd c_908 (by decide)
    ·
      exact absurd c_911 (by decide)
    ·
      exact absurd c_914 (by decide)
    ·
      have hP : va_P G.1 vwCl [(aout, .inl (G.2.2.2.2, 1, .inr (.inl (vp_updL (fun _ => 0) 0 0)))), (x4, .inr (8, ofL 5 Fx4)), (x8, .inr (3, ofL 12 Fx8)), (x2, .inl (G.2.1, 3, .inl (fun _ => 0))), (x0, .inr (11, ofL 17 Fx0)), (x31, .inr (1, ofL 10 Fx31)), (x3, .inr (7, ofL 5 Fx3)), (m14, .inl (G.2.1, 3, .inl (fun _ => 0))), (m0, .inr (12, ofL 88 (updV Fm0 0 (.int 0))))] H := hP
      have hD : va_D A [(aout, .inl (G.2.2.2.2, 1, .inr (.inl (vp_updL (fun _ => 0) 0 0)))), (x4, .inr (8, ofL 5 Fx4)), (x8, .inr (3, ofL 12 Fx8)), (x2, .inl (G.2.1, 3, .inl (fun _ => 0))), (x0, .inr (11, ofL 17 Fx0)), (x31, .inr (1, ofL 10 Fx31)), (x3, .inr (7, ofL 5 Fx3)), (m14, .inl (G.2.1, 3, .inl (fun _ => 0))), (m0, .inr (12, ofL 88 (updV Fm0 0 (.int 0))))] := hD
      refine lv_istore (lv' := [(6, .int 0), (5, .int 0), (0, .ref b), (1, .ref x0), (2, .ref m0), (3, .ref aout), (4, .int 0)]) hx hb dL_law_377 hl (by decide) rfl (fun ls hl => ?_)
      refine lv_aload_n hx hb dL_law_379 rfl (lv_at hl 4 rfl) ?_
      refine k_callVi (wr := [(aout, .inl (G.2.2.2.2, 1, .inr (.inl (vp_updL (fun _ => 0) 0 0)))), (x4, .inr (8, ofL 5 Fx4)), (x8, .inr (3, ofL 12 Fx8)), (x2, .inl (G.2.1, 3, .inl (fun _ => 0))), (x0, .inr (11, ofL 17 Fx0)), (x31, .inr (1, ofL 10 Fx31)), (x3, .inr (7, ofL 5 Fx3)), (m14, .inl (G.2.1, 3, .inl (fun _ => 0)))]) (rest := []) li_L_118 C (c_X12_thrown l G H.size m0 (updV Fm0 0 (.int 0)) 0 rfl) (kR rfl) hP hD hS [8] [0, 1, 2, 3, 4, 5, 6, 7] rfl rfl rfl rfl (by decide) 0 12 rfl rfl rfl hl.1 rfl (Nat.le_of_ble_eq_true rfl) dL_law_380 (fun rr922 uu923 H locs hw921 hP hD hS => ?_)
      obtain rfl : rr922 = 0 := hw921
      have hP : va_P G.1 vwCl [(aout, .inl (G.2.2.2.2, 1, .inr (.inl (vp_updL (fun _ => 0) 0 0)))), (x4, .inr (8, ofL 5 Fx4)), (x8, .inr (3, ofL 12 Fx8)), (x2, .inl (G.2.1, 3, .inl (fun _ => 0))), (x0, .inr (11, ofL 17 Fx0)), (x31, .inr (1, ofL 10 Fx31)), (x3, .inr (7, ofL 5 Fx3)), (m14, .inl (G.2.1, 3, .inl (fun _ => 0))), (m0, .inr (12, ofL 88 (updV Fm0 0 (.int 0))))] H := hP
      have hD : va_D A [(aout, .inl (G.2.2.2.2, 1, .inr (.inl (vp_updL (fun _ => 0) 0 0)))), (x4, .inr (8, ofL 5 Fx4)), (x8, .inr (3, ofL 12 Fx8)), (x2, .inl (G.2.1, 3, .inl (fun _ => 0))), (x0, .inr (11, ofL 17 Fx0)), (x31, .inr (1, ofL 10 Fx31)), (x3, .inr (7, ofL 5 Fx3)), (m14, .inl (G.2.1, 3, .inl (fun _ => 0))), (m0, .inr (12, ofL 88 (updV Fm0 0 (.int 0))))] := hD
      refine lv_iload hx hb dL_law_383 (lv_at hl 1 rfl) ?_
      refine lv_icmp_eq (x := 0) (y := 0) (tgt := 390) hx hb dL_law_385 (by decide) (fun c_924 => ?_) (fun c_924 => ?_)
      rotate_left
      · exact absurd (by decide) c_924
      refine lv_iload hx hb dL_law_390 (lv_at hl 1 rfl) ?_
      refine lv_if_ne (x := 0) (tgt := 407) hx hb dL_law_392 (by decide) (fun c_925 => ?_) (fun c_925 => ?_)
      · exact absurd (by decide) c_925
      refine lv_aload_n hx hb dL_law_395 rfl (lv_at hl 5 rfl) ?_
      refine lv_iconst (v := 0) hx hb dL_law_396 (by decide) ?_
      refine k_lald C hP 0 rfl (k_in (by decide)) dL_law_397 ?_
      refine k_eql (y := 0) rfl ?_
      refine lv_iload hx hb dL_law_398 (lv_at hl 0 rfl) ?_
      refine lv_i2l (v := 0) hx hb dL_law_400 (by decide) ?_
      refine W.lcmp hx hb dL_law_401 ?_
      refine k_eqi (y := 0) (by decide) ?_
      refine lv_if_eq (x := 0) (tgt := 407) hx hb dL_law_402 (by decide) (fun c_926 => ?_) (fun c_926 => ?_)
      rotate_left
      · exact absurd (by decide) c_926
      refine lv_goto (tgt := 2265) hx hb dL_law_407 (by decide) ?_
      exact law_end hst C0 hA C hS (lv_sub hl [2, 6] rfl) (Nat.le_of_ble_eq_true rfl) (Nat.le_of_ble_eq_true rfl)
    ·
      exact absurd c_920 (by decide)
  ·
    have hP : va_P G.1 vwCl [(m0, .inr (12, ofL 88 Fm0)), (m14, .inl (G.2.1, 3, .inl (fun _ => 0))), (aout, .inl (G.2.2.2.2, 1, .inr (.inl (vp_updL (fun _ => 0) 0 0)))), (x4, .inr (8, ofL 5 Fx4)), (x8, .inr (3, ofL 12 Fx8)), (x2, .inl (G.2.1, 3, .inl (fun _ => 0))), (x0, .inr (11, ofL 17 Fx0)), (x31, .inr (1, ofL 10 Fx31)), (x3, .inr (7, ofL 5 Fx3))] H := hP
    have hD : va_D A [(m0, .inr (12, ofL 88 Fm0)), (m14, .inl (G.2.1, 3, .inl (fun _ => 0))), (aout, .inl (G.2.2.2.2, 1, .inr (.inl (vp_updL (fun _ => 0) 0 0)))), (x4, .inr (8, ofL 5 Fx4)), (x8, .inr (3, ofL 12 Fx8)), (x2, .inl (G.2.1, 3, .inl (fun _ => 0))), (x0, .inr (11, ofL 17 Fx0)), (x31, .inr (1, ofL 10 Fx31)), (x3, .inr (7, ofL 5 Fx3))] := hD
    refine lv_istore (lv' := [(5, .int 0), (0, .ref b), (1, .ref x0), (2, .ref m0), (3, .ref aout), (4, .int 0)]) hx hb dL_law_365 hl (by decide) rfl (fun ls hl => ?_)
    refine lv_aload_n hx hb dL_law_367 rfl (lv_at hl 3 rfl) ?_
    refine lv_aload_n hx hb dL_law_368 rfl (lv_at hl 1 rfl) ?_
    refine lv_iload hx hb dL_law_369 (lv_at hl 5 rfl) ?_
    refine lv_iconst (v := 1) hx hb dL_law_371 (by decide) ?_
    refine lv_iadd hx hb dL_law_372 ?_
    refine k_eqi (y := 1) (by decide) ?_
    refine va_sld hx hb hX hbl hbA hS (k_in (by decide)) dL_law_373 ?_
    refine k_eqi (y := 14) hv1 ?_
    refine k_callVi (wr := [(aout, .inl (G.2.2.2.2, 1, .inr (.inl (vp_updL (fun _ => 0) 0 0)))), (x4, .inr (8, ofL 5 Fx4)), (x8, .inr (3, ofL 12 Fx8)), (x2, .inl (G.2.1, 3, .inl (fun _ => 0))), (x0, .inr (11, ofL 17 Fx0)), (x31, .inr (1, ofL 10 Fx31)), (x3, .inr (7, ofL 5 Fx3))]) (rest := []) li_L_128 C (c_X12_count l G H.size m0 14 Fm0 m14 e_m0_1 e_m0_2 e_m0_52 e_m0_3 e_m0_4 e_m0_62 e_m0_73 e_m0_18 e_m0_21) (kR rfl) hP hD hS [0, 1] [2, 3, 4, 5, 6, 7, 8] rfl rfl rfl rfl (by decide) 0 12 rfl rfl rfl hl.1 rfl (Nat.le_of_ble_eq_true rfl) dL_law_374 (fun rr928 uu929 H locs hw927 hP hD hS => ?_)
    rcases hw927 with ⟨rfl, rfl, c_930⟩ | ⟨rfl, rfl, c_931, c_932⟩ | ⟨rfl, rfl, c_933, c_934, c_935⟩ | ⟨rfl, rfl, c_936, c_937, c_938⟩ | ⟨rfl, rfl, c_939, c_940, c_941⟩ | ⟨rfl, rfl, c_942, c_943, c_944⟩ | ⟨rfl, rfl, c_945, c_946, c_947⟩ | ⟨rfl, rfl, c_948, c_949, c_950⟩ | ⟨rfl, rfl, c_951, c_952, c_953⟩ | ⟨rfl, rfl, c_954, c_955, c_956⟩ | ⟨rfl, rfl, c_957, c_958, c_959⟩ | ⟨rfl, rfl, c_960, c_961, c_962⟩ | ⟨rfl, rfl, c_963, c_964, c_965⟩ | ⟨rfl, rfl, c_966, c_967, c_968⟩ | ⟨rfl, rfl, c_969, c_970, c_971⟩ | ⟨rfl, rfl, c_972, c_973, c_974⟩ | ⟨rfl, rfl, c_975, c_976, c_977⟩
    ·
      exact absurd c_930 (by decide)
    ·
      exact absurd c_932 (by decide)
    ·
      exact absurd c_935 (by decide)
    ·
      exact absurd c_938 (by decide)
    ·
      exact absurd c_941 (by decide)
    ·
      exact absurd c_944 (by decide)
    ·
      exact absurd c_947 (by decide)
    ·
      exact absurd c_950 (by decide)
    ·
      exact absurd c_953 (by decide)
    ·
      exact absurd c_956 (by decide)
    ·
      exact absurd c_959 (by decide)
    ·
      exact absurd c_962 (by decide)
    ·
      exact absurd c_965 (by decide)
    ·
      exact absurd c_968 (by decide)
    ·
      exact absurd c_971 (by decide)
    ·
      exact absurd c_974 (by decide)
    ·
      have hP : va_P G.1 vwCl [(aout, .inl (G.2.2.2.2, 1, .inr (.inl (vp_updL (fun _ => 0) 0 0)))), (x4, .inr (8, ofL 5 Fx4)), (x8, .inr (3, ofL 12 Fx8)), (x2, .inl (G.2.1, 3, .inl (fun _ => 0))), (x0, .inr (11, ofL 17 Fx0)), (x31, .inr (1, ofL 10 Fx31)), (x3, .inr (7, ofL 5 Fx3)), (m14, .inl (G.2.1, 3, .inl (fun _ => 0))), (m0, .inr (12, ofL 88 (updV Fm0 0 (.int 0))))] H := hP
      have hD : va_D A [(aout, .inl (G.2.2.2.2, 1, .inr (.inl (vp_updL (fun _ => 0) 0 0)))), (x4, .inr (8, ofL 5 Fx4)), (x8, .inr (3, ofL 12 Fx8)), (x2, .inl (G.2.1, 3, .inl (fun _ => 0))), (x0, .inr (11, ofL 17 Fx0)), (x31, .inr (1, ofL 10 Fx31)), (x3, .inr (7, ofL 5 Fx3)), (m14, .inl (G.2.1, 3, .inl (fun _ => 0))), (m0, .inr (12, ofL 88 (updV Fm0 0 (.int 0))))] := hD
      refine lv_istore (lv' := [(6, .int 0), (5, .int 0), (0, .ref b), (1, .ref x0), (2, .ref m0), (3, .ref aout), (4, .int 0)]) hx hb dL_law_377 hl (by decide) rfl (fun ls hl => ?_)
      refine lv_aload_n hx hb dL_law_379 rfl (lv_at hl 4 rfl) ?_
      refine k_callVi (wr := [(aout, .inl (G.2.2.2.2, 1, .inr (.inl (vp_updL (fun _ => 0) 0 0)))), (x4, .inr (8, ofL 5 Fx4)), (x8, .inr (3, ofL 12 Fx8)), (x2, .inl (G.2.1, 3, .inl (fun _ => 0))), (x0, .inr (11, ofL 17 Fx0)), (x31, .inr (1, ofL 10 Fx31)), (x3, .inr (7, ofL 5 Fx3)), (m14, .inl (G.2.1, 3, .inl (fun _ => 0)))]) (rest := []) li_L_118 C (c_X12_thrown l G H.size m0 (updV Fm0 0 (.int 0)) 0 rfl) (kR rfl) hP hD hS [8] [0, 1, 2, 3, 4, 5, 6, 7] rfl rfl rfl rfl (by decide) 0 12 rfl rfl rfl hl.1 rfl (Nat.le_of_ble_eq_true rfl) dL_law_380 (fun rr979 uu980 H locs hw978 hP hD hS => ?_)
      obtain rfl : rr979 = 0 := hw978
      have hP : va_P G.1 vwCl [(aout, .inl (G.2.2.2.2, 1, .inr (.inl (vp_updL (fun _ => 0) 0 0)))), (x4, .inr (8, ofL 5 Fx4)), (x8, .inr (3, ofL 12 Fx8)), (x2, .inl (G.2.1, 3, .inl (fun _ => 0))), (x0, .inr (11, ofL 17 Fx0)), (x31, .inr (1, ofL 10 Fx31)), (x3, .inr (7, ofL 5 Fx3)), (m14, .inl (G.2.1, 3, .inl (fun _ => 0))), (m0, .inr (12, ofL 88 (updV Fm0 0 (.int 0))))] H := hP
      have hD : va_D A [(aout, .inl (G.2.2.2.2, 1, .inr (.inl (vp_updL (fun _ => 0) 0 0)))), (x4, .inr (8, ofL 5 Fx4)), (x8, .inr (3, ofL 12 Fx8)), (x2, .inl (G.2.1, 3, .inl (fun _ => 0))), (x0, .inr (11, ofL 17 Fx0)), (x31, .inr (1, ofL 10 Fx31)), (x3, .inr (7, ofL 5 Fx3)), (m14, .inl (G.2.1, 3, .inl (fun _ => 0))), (m0, .inr (12, ofL 88 (updV Fm0 0 (.int 0))))] := hD
      refine lv_iload hx hb dL_law_383 (lv_at hl 1 rfl) ?_
      refine lv_icmp_eq (x := 0) (y := 0) (tgt := 390) hx hb dL_law_385 (by decide) (fun c_981 => ?_) (fun c_981 => ?_)
      rotate_left
      · exact absurd (by decide) c_981
      refine lv_iload hx hb dL_law_390 (lv_at hl 1 rfl) ?_
      refine lv_if_ne (x := 0) (tgt := 407) hx hb dL_law_392 (by decide) (fun c_982 => ?_) (fun c_982 => ?_)
      · exact absurd (by decide) c_982
      refine lv_aload_n hx hb dL_law_395 rfl (lv_at hl 5 rfl) ?_
      refine lv_iconst (v := 0) hx hb dL_law_396 (by decide) ?_
      refine k_lald C hP 0 rfl (k_in (by decide)) dL_law_397 ?_
      refine k_eql (y := 0) rfl ?_
      refine lv_iload hx hb dL_law_398 (lv_at hl 0 rfl) ?_
      refine lv_i2l (v := 0) hx hb dL_law_400 (by decide) ?_
      refine W.lcmp hx hb dL_law_401 ?_
      refine k_eqi (y := 0) (by decide) ?_
      refine lv_if_eq (x := 0) (tgt := 407) hx hb dL_law_402 (by decide) (fun c_983 => ?_) (fun c_983 => ?_)
      rotate_left
      · exact absurd (by decide) c_983
      refine lv_goto (tgt := 2265) hx hb dL_law_407 (by decide) ?_
      exact law_end hst C0 hA C hS (lv_sub hl [2, 6] rfl) (Nat.le_of_ble_eq_true rfl) (Nat.le_of_ble_eq_true rfl)
set_option maxHeartbeats 4000000 in
set_option maxRecDepth 100000 in
theorem law_4 {p : Program} {e : Env} {s : State} {m : MethodId} {below : List Frame} {meth : Method} {c : Code} {l : Launch} (hst : l.stackTraces = false) {b : Nat} {xs : Nat → Int32} {G : kG} {A : Nat → Prop} (C0 : lw_At p s m meth c b 6 xs) (hA : A = fun q : Nat => s.heap.size ≤ q) (C : kC G p s m c cL_law 8 RL A) {v1 : Int32} (hv1 : xs 1 = v1) {v2 : Int32} (hv2 : xs 2 = v2) {v3 : Int32} (hv3 : xs 3 = v3) {v4 : Int32} (hv4 : xs 4 = v4) {v5 : Int32} (hv5 : xs 5 = v5) {x0 : Nat} {Fx0 : Nat → Value} {x3 : Nat} {Fx3 : Nat → Value} {m0 : Nat} {Fm0 : Nat → Value} {aout : Nat} (e_x0_3 : Fx0 3 = .ref x3) (e_x3_2 : Fx3 2 = .int 0) (e_m0_1 : Fm0 1 = .int 0) {H : Heap} {locs : List Loc} {ls : Array Slot} (hP : va_P G.1 vwCl [(x0, .inr (11, ofL 17 Fx0)), (x3, .inr (7, ofL 5 Fx3)), (m0, .inr (12, ofL 88 Fm0)), (aout, .inl (G.2.2.2.2, 1, .inr (.inl (fun _ => 0))))] H) (hD : va_D A [(x0, .inr (11, ofL 17 Fx0)), (x3, .inr (7, ofL 5 Fx3)), (m0, .inr (12, ofL 88 Fm0)), (aout, .inl (G.2.2.2.2, 1, .inr (.inl (fun _ => 0))))]) (hS : va_S A s.heap H locs) (hl : lv_has ls 8 [(0, .ref b), (1, .ref x0), (2, .ref m0), (3, .ref aout), (4, .int 0)]) :
    W p l e room_1 s m #[Value.ref b] below meth c H locs 1000 20000 (lw_Z below #[Value.ref b] s) (F0 m 410 ls []) := by
  obtain ⟨hx, hb, hr, -, -, -, hX, hbl, hlocks, -⟩ := id C0
  have hbA : ¬ A b := by rw [hA]; exact Nat.not_le.mpr hbl
  refine lv_aload_n hx hb dL_law_410 rfl (lv_at hl 1 rfl) ?_
  refine lv_aload_n hx hb dL_law_411 rfl (lv_at hl 0 rfl) ?_
  refine lv_iload hx hb dL_law_412 (lv_at hl 4 rfl) ?_
  refine lv_iconst (v := 1) hx hb dL_law_414 (by decide) ?_
  refine lv_iadd hx hb dL_law_415 ?_
  refine k_eqi (y := 1) (by decide) ?_
  refine va_sld hx hb hX hbl hbA hS (k_in (by decide)) dL_law_416 ?_
  refine k_eqi (y := v1) hv1 ?_
  refine lv_aload_n hx hb dL_law_417 rfl (lv_at hl 0 rfl) ?_
  refine lv_iload hx hb dL_law_418 (lv_at hl 4 rfl) ?_
  refine lv_iconst (v := 2) hx hb dL_law_420 (by decide) ?_
  refine lv_iadd hx hb dL_law_421 ?_
  refine k_eqi (y := 2) (by decide) ?_
  refine va_sld hx hb hX hbl hbA hS (k_in (by decide)) dL_law_422 ?_
  refine k_eqi (y := v2) hv2 ?_
  refine lv_aload_n hx hb dL_law_423 rfl (lv_at hl 3 rfl) ?_
  refine k_callHi (wr := [(m0, .inr (12, ofL 88 Fm0))]) (rest := []) li_L_129 C (c_L_lesson l hst G H.size x0 v1 v2 aout Fx0 x3 Fx3 (fun _ => 0) e_x0_3 e_x3_2) (kR rfl) hP hD hS [0, 1, 3] [2] rfl rfl rfl rfl (by decide) rfl hl.1 rfl (Nat.le_of_ble_eq_true rfl) dL_law_424 (fun rr2 uu3 H locs hw1 hP hD hS => ?_)
  rcases hw1 with ⟨rfl, rfl, c_4⟩ | ⟨rfl, rfl, c_5⟩
  ·
    have hP : va_P G.1 vwCl [(m0, .inr (12, ofL 88 Fm0)), (aout, .inl (G.2.2.2.2, 1, .inr (.inl ((fun _ => 0))))), (x0, .inr (11, ofL 17 Fx0)), (x3, .inr (7, ofL 5 Fx3))] H := hP
    have hD : va_D A [(m0, .inr (12, ofL 88 Fm0)), (aout, .inl (G.2.2.2.2, 1, .inr (.inl ((fun _ => 0))))), (x0, .inr (11, ofL 17 Fx0)), (x3, .inr (7, ofL 5 Fx3))] := hD
    refine lv_istore (lv' := [(5, .int 1), (0, .ref b), (1, .ref x0), (2, .ref m0), (3, .ref aout), (4, .int 0)]) hx hb dL_law_427 hl (by decide) rfl (fun ls hl => ?_)
    refine lv_aload_n hx hb dL_law_429 rfl (lv_at hl 3 rfl) ?_
    refine lv_aload_n hx hb dL_law_430 rfl (lv_at hl 1 rfl) ?_
    refine lv_iload hx hb dL_law_431 (lv_at hl 5 rfl) ?_
    refine lv_iconst (v := 1) hx hb dL_law_433 (by decide) ?_
    refine lv_iadd hx hb dL_law_434 ?_
    refine k_eqi (y := 1) (by decide) ?_
    refine va_sld hx hb hX hbl hbA hS (k_in (by decide)) dL_law_435 ?_
    refine k_eqi (y := v1) hv1 ?_
    refine lv_aload_n hx hb dL_law_436 rfl (lv_at hl 1 rfl) ?_
    refine lv_iload hx hb dL_law_437 (lv_at hl 5 rfl) ?_
    refine lv_iconst (v := 2) hx hb dL_law_439 (by decide) ?_
    refine lv_iadd hx hb dL_law_440 ?_
    refine k_eqi (y := 2) (by decide) ?_
    refine va_sld hx hb hX hbl hbA hS (k_in (by decide)) dL_law_441 ?_
    refine k_eqi (y := v2) hv2 ?_
    refine k_callVi (wr := [(aout, .inl (G.2.2.2.2, 1, .inr (.inl ((fun _ => 0))))), (x0, .inr (11, ofL 17 Fx0)), (x3, .inr (7, ofL 5 Fx3))]) (rest := []) li_L_132 C (c_X12_lesson l G H.size m0 v1 v2 Fm0 e_m0_1) (kR rfl) hP hD hS [0] [1, 2, 3] rfl rfl rfl rfl (by decide) 0 12 rfl rfl rfl hl.1 rfl (Nat.le_of_ble_eq_true rfl) dL_law_442 (fun rr7 uu8 H locs hw6 hP hD hS => ?_)
    rcases hw6 with ⟨rfl, rfl, c_9⟩ | ⟨rfl, rfl, c_10⟩
    ·
      have hP : va_P G.1 vwCl [(aout, .inl (G.2.2.2.2, 1, .inr (.inl ((fun _ => 0))))), (x0, .inr (11, ofL 17 Fx0)), (x3, .inr (7, ofL 5 Fx3)), (m0, .inr (12, ofL 88 (updV (updV Fm0 0 (.int 0)) 0 (.int 1))))] H := hP
      have hD : va_D A [(aout, .inl (G.2.2.2.2, 1, .inr (.inl ((fun _ => 0))))), (x0, .inr (11, ofL 17 Fx0)), (x3, .inr (7, ofL 5 Fx3)), (m0, .inr (12, ofL 88 (updV (updV Fm0 0 (.int 0)) 0 (.int 1))))] := hD
      refine lv_istore (lv' := [(6, .int 0), (5, .int 1), (0, .ref b), (1, .ref x0), (2, .ref m0), (3, .ref aout), (4, .int 0)]) hx hb dL_law_445 hl (by decide) rfl (fun ls hl => ?_)
      refine lv_aload_n hx hb dL_law_447 rfl (lv_at hl 4 rfl) ?_
      refine k_callVi (wr := [(aout, .inl (G.2.2.2.2, 1, .inr (.inl ((fun _ => 0))))), (x0, .inr (11, ofL 17 Fx0)), (x3, .inr (7, ofL 5 Fx3))]) (rest := []) li_L_118 C (c_X12_thrown l G H.size m0 (updV (updV Fm0 0 (.int 0)) 0 (.int 1)) 1 rfl) (kR rfl) hP hD hS [3] [0, 1, 2] rfl rfl rfl rfl (by decide) 0 12 rfl rfl rfl hl.1 rfl (Nat.le_of_ble_eq_true rfl) dL_law_448 (fun rr12 uu13 H locs hw11 hP hD hS => ?_)
      obtain rfl : rr12 = 1 := hw11
      have hP : va_P G.1 vwCl [(aout, .inl (G.2.2.2.2, 1, .inr (.inl ((fun _ => 0))))), (x0, .inr (11, ofL 17 Fx0)), (x3, .inr (7, ofL 5 Fx3)), (m0, .inr (12, ofL 88 (updV (updV Fm0 0 (.int 0)) 0 (.int 1))))] H := hP
      have hD : va_D A [(aout, .inl (G.2.2.2.2, 1, .inr (.inl ((fun _ => 0))))), (x0, .inr (11, ofL 17 Fx0)), (x3, .inr (7, ofL 5 Fx3)), (m0, .inr (12, ofL 88 (updV (updV Fm0 0 (.int 0)) 0 (.int 1))))] := hD
      refine lv_iload hx hb dL_law_451 (lv_at hl 1 rfl) ?_
      refine lv_icmp_eq (x := 1) (y := 1) (tgt := 458) hx hb dL_law_453 (by decide) (fun c_14 => ?_) (fun c_14 => ?_)
      rotate_left
      · exact absurd (by decide) c_14
      refine lv_iload hx hb dL_law_458 (lv_at hl 1 rfl) ?_
      refine lv_if_ne (x := 1) (tgt := 475) hx hb dL_law_460 (by decide) (fun c_15 => ?_) (fun c_15 => ?_)
      rotate_left
      · exact absurd c_15 (by decide)
      refine lv_goto (tgt := 2265) hx hb dL_law_475 (by decide) ?_
      exact law_end hst C0 hA C hS (lv_sub hl [2, 6] rfl) (Nat.le_of_ble_eq_true rfl) (Nat.le_of_ble_eq_true rfl)
    ·
      have hP : va_P G.1 vwCl [(aout, .inl (G.2.2.2.2, 1, .inr (.inl ((fun _ => 0))))), (x0, .inr (11, ofL 17 Fx0)), (x3, .inr (7, ofL 5 Fx3)), (m0, .inr (12, ofL 88 (updV (updV Fm0 0 (.int 0)) 0 (.int 1))))] H := hP
      have hD : va_D A [(aout, .inl (G.2.2.2.2, 1, .inr (.inl ((fun _ => 0))))), (x0, .inr (11, ofL 17 Fx0)), (x3, .inr (7, ofL 5 Fx3)), (m0, .inr (12, ofL 88 (updV (updV Fm0 0 (.int 0)) 0 (.int 1))))] := hD
      refine lv_istore (lv' := [(6, .int 0), (5, .int 1), (0, .ref b), (1, .ref x0), (2, .ref m0), (3, .ref aout), (4, .int 0)]) hx hb dL_law_445 hl (by decide) rfl (fun ls hl => ?_)
      refine lv_aload_n hx hb dL_law_447 rfl (lv_at hl 4 rfl) ?_
      refine k_callVi (wr := [(aout, .inl (G.2.2.2.2, 1, .inr (.inl ((fun _ => 0))))), (x0, .inr (11, ofL 17 Fx0)), (x3, .inr (7, ofL 5 Fx3))]) (rest := []) li_L_118 C (c_X12_thrown l G H.size m0 (updV (updV Fm0 0 (.int 0)) 0 (.int 1)) 1 rfl) (kR rfl) hP hD hS [3] [0, 1, 2] rfl rfl rfl rfl (by decide) 0 12 rfl rfl rfl hl.1 rfl (Nat.le_of_ble_eq_true rfl) dL_law_448 (fun rr17 uu18 H locs hw16 hP hD hS => ?_)
      obtain rfl : rr17 = 1 := hw16
      have hP : va_P G.1 vwCl [(aout, .inl (G.2.2.2.2, 1, .inr (.inl ((fun _ => 0))))), (x0, .inr (11, ofL 17 Fx0)), (x3, .inr (7, ofL 5 Fx3)), (m0, .inr (12, ofL 88 (updV (updV Fm0 0 (.int 0)) 0 (.int 1))))] H := hP
      have hD : va_D A [(aout, .inl (G.2.2.2.2, 1, .inr (.inl ((fun _ => 0))))), (x0, .inr (11, ofL 17 Fx0)), (x3, .inr (7, ofL 5 Fx3)), (m0, .inr (12, ofL 88 (updV (updV Fm0 0 (.int 0)) 0 (.int 1))))] := hD
      refine lv_iload hx hb dL_law_451 (lv_at hl 1 rfl) ?_
      refine lv_icmp_eq (x := 1) (y := 1) (tgt := 458) hx hb dL_law_453 (by decide) (fun c_19 => ?_) (fun c_19 => ?_)
      rotate_left
      · exact absurd (by decide) c_19
      refine lv_iload hx hb dL_law_458 (lv_at hl 1 rfl) ?_
      refine lv_if_ne (x := 1) (tgt := 475) hx hb dL_law_460 (by decide) (fun c_20 => ?_) (fun c_20 => ?_)
      rotate_left
      · exact absurd c_20 (by decide)
      refine lv_goto (tgt := 2265) hx hb dL_law_475 (by decide) ?_
      exact law_end hst C0 hA C hS (lv_sub hl [2, 6] rfl) (Nat.le_of_ble_eq_true rfl) (Nat.le_of_ble_eq_true rfl)
  ·
    have hP : va_P G.1 vwCl [(m0, .inr (12, ofL 88 Fm0)), (aout, .inl (G.2.2.2.2, 1, .inr (.inl ((fun _ => 0))))), (x0, .inr (11, ofL 17 Fx0)), (x3, .inr (7, ofL 5 Fx3))] H := hP
    have hD : va_D A [(m0, .inr (12, ofL 88 Fm0)), (aout, .inl (G.2.2.2.2, 1, .inr (.inl ((fun _ => 0))))), (x0, .inr (11, ofL 17 Fx0)), (x3, .inr (7, ofL 5 Fx3))] := hD
    refine lv_istore (lv' := [(5, .int 1), (0, .ref b), (1, .ref x0), (2, .ref m0), (3, .ref aout), (4, .int 0)]) hx hb dL_law_427 hl (by decide) rfl (fun ls hl => ?_)
    refine lv_aload_n hx hb dL_law_429 rfl (lv_at hl 3 rfl) ?_
    refine lv_aload_n hx hb dL_law_430 rfl (lv_at hl 1 rfl) ?_
    refine lv_iload hx hb dL_law_431 (lv_at hl 5 rfl) ?_
    refine lv_iconst (v := 1) hx hb dL_law_433 (by decide) ?_
    refine lv_iadd hx hb dL_law_434 ?_
    refine k_eqi (y := 1) (by decide) ?_
    refine va_sld hx hb hX hbl hbA hS (k_in (by decide)) dL_law_435 ?_
    refine k_eqi (y := v1) hv1 ?_
    refine lv_aload_n hx hb dL_law_436 rfl (lv_at hl 1 rfl) ?_
    refine lv_iload hx hb dL_law_437 (lv_at hl 5 rfl) ?_
    refine lv_iconst (v := 2) hx hb dL_law_439 (by decide) ?_
    refine lv_iadd hx hb dL_law_440 ?_
    refine k_eqi (y := 2) (by decide) ?_
    refine va_sld hx hb hX hbl hbA hS (k_in (by decide)) dL_law_441 ?_
    refine k_eqi (y := v2) hv2 ?_
    refine k_callVi (wr := [(aout, .inl (G.2.2.2.2, 1, .inr (.inl ((fun _ => 0))))), (x0, .inr (11, ofL 17 Fx0)), (x3, .inr (7, ofL 5 Fx3))]) (rest := []) li_L_132 C (c_X12_lesson l G H.size m0 v1 v2 Fm0 e_m0_1) (kR rfl) hP hD hS [0] [1, 2, 3] rfl rfl rfl rfl (by decide) 0 12 rfl rfl rfl hl.1 rfl (Nat.le_of_ble_eq_true rfl) dL_law_442 (fun rr22 uu23 H locs hw21 hP hD hS => ?_)
    rcases hw21 with ⟨rfl, rfl, c_24⟩ | ⟨rfl, rfl, c_25⟩
    ·
      have hP : va_P G.1 vwCl [(aout, .inl (G.2.2.2.2, 1, .inr (.inl ((fun _ => 0))))), (x0, .inr (11, ofL 17 Fx0)), (x3, .inr (7, ofL 5 Fx3)), (m0, .inr (12, ofL 88 (updV (updV Fm0 0 (.int 0)) 0 (.int 1))))] H := hP
      have hD : va_D A [(aout, .inl (G.2.2.2.2, 1, .inr (.inl ((fun _ => 0))))), (x0, .inr (11, ofL 17 Fx0)), (x3, .inr (7, ofL 5 Fx3)), (m0, .inr (12, ofL 88 (updV (updV Fm0 0 (.int 0)) 0 (.int 1))))] := hD
      refine lv_istore (lv' := [(6, .int 0), (5, .int 1), (0, .ref b), (1, .ref x0), (2, .ref m0), (3, .ref aout), (4, .int 0)]) hx hb dL_law_445 hl (by decide) rfl (fun ls hl => ?_)
      refine lv_aload_n hx hb dL_law_447 rfl (lv_at hl 4 rfl) ?_
      refine k_callVi (wr := [(aout, .inl (G.2.2.2.2, 1, .inr (.inl ((fun _ => 0))))), (x0, .inr (11, ofL 17 Fx0)), (x3, .inr (7, ofL 5 Fx3))]) (rest := []) li_L_118 C (c_X12_thrown l G H.size m0 (updV (updV Fm0 0 (.int 0)) 0 (.int 1)) 1 rfl) (kR rfl) hP hD hS [3] [0, 1, 2] rfl rfl rfl rfl (by decide) 0 12 rfl rfl rfl hl.1 rfl (Nat.le_of_ble_eq_true rfl) dL_law_448 (fun rr27 uu28 H locs hw26 hP hD hS => ?_)
      obtain rfl : rr27 = 1 := hw26
      have hP : va_P G.1 vwCl [(aout, .inl (G.2.2.2.2, 1, .inr (.inl ((fun _ => 0))))), (x0, .inr (11, ofL 17 Fx0)), (x3, .inr (7, ofL 5 Fx3)), (m0, .inr (12, ofL 88 (updV (updV Fm0 0 (.int 0)) 0 (.int 1))))] H := hP
      have hD : va_D A [(aout, .inl (G.2.2.2.2, 1, .inr (.inl ((fun _ => 0))))), (x0, .inr (11, ofL 17 Fx0)), (x3, .inr (7, ofL 5 Fx3)), (m0, .inr (12, ofL 88 (updV (updV Fm0 0 (.int 0)) 0 (.int 1))))] := hD
      refine lv_iload hx hb dL_law_451 (lv_at hl 1 rfl) ?_
      refine lv_icmp_eq (x := 1) (y := 1) (tgt := 458) hx hb dL_law_453 (by decide) (fun c_29 => ?_) (fun c_29 => ?_)
      rotate_left
      · exact absurd (by decide) c_29
      refine lv_iload hx hb dL_law_458 (lv_at hl 1 rfl) ?_
      refine lv_if_ne (x := 1) (tgt := 475) hx hb dL_law_460 (by decide) (fun c_30 => ?_) (fun c_30 => ?_)
      rotate_left
      · exact absurd c_30 (by decide)
      refine lv_goto (tgt := 2265) hx hb dL_law_475 (by decide) ?_
      exact law_end hst C0 hA C hS (lv_sub hl [2, 6] rfl) (Nat.le_of_ble_eq_true rfl) (Nat.le_of_ble_eq_true rfl)
    ·
      have hP : va_P G.1 vwCl [(aout, .inl (G.2.2.2.2, 1, .inr (.inl ((fun _ => 0))))), (x0, .inr (11, ofL 17 Fx0)), (x3, .inr (7, ofL 5 Fx3)), (m0, .inr (12, ofL 88 (updV (updV Fm0 0 (.int 0)) 0 (.int 1))))] H := hP
      have hD : va_D A [(aout, .inl (G.2.2.2.2, 1, .inr (.inl ((fun _ => 0))))), (x0, .inr (11, ofL 17 Fx0)), (x3, .inr (7, ofL 5 Fx3)), (m0, .inr (12, ofL 88 (updV (updV Fm0 0 (.int 0)) 0 (.int 1))))] := hD
      refine lv_istore (lv' := [(6, .int 0), (5, .int 1), (0, .ref b), (1, .ref x0), (2, .ref m0), (3, .ref aout), (4, .int 0)]) hx hb dL_law_445 hl (by decide) rfl (fun ls hl => ?_)
      refine lv_aload_n hx hb dL_law_447 rfl (lv_at hl 4 rfl) ?_
      refine k_callVi (wr := [(aout, .inl (G.2.2.2.2, 1, .inr (.inl ((fun _ => 0))))), (x0, .inr (11, ofL 17 Fx0)), (x3, .inr (7, ofL 5 Fx3))]) (rest := []) li_L_118 C (c_X12_thrown l G H.size m0 (updV (updV Fm0 0 (.int 0)) 0 (.int 1)) 1 rfl) (kR rfl) hP hD hS [3] [0, 1, 2] rfl rfl rfl rfl (by decide) 0 12 rfl rfl rfl hl.1 rfl (Nat.le_of_ble_eq_true rfl) dL_law_448 (fun rr32 uu33 H locs hw31 hP hD hS => ?_)
      obtain rfl : rr32 = 1 := hw31
      have hP : va_P G.1 vwCl [(aout, .inl (G.2.2.2.2, 1, .inr (.inl ((fun _ => 0))))), (x0, .inr (11, ofL 17 Fx0)), (x3, .inr (7, ofL 5 Fx3)), (m0, .inr (12, ofL 88 (updV (updV Fm0 0 (.int 0)) 0 (.int 1))))] H := hP
      have hD : va_D A [(aout, .inl (G.2.2.2.2, 1, .inr (.inl ((fun _ => 0))))), (x0, .inr (11, ofL 17 Fx0)), (x3, .inr (7, ofL 5 Fx3)), (m0, .inr (12, ofL 88 (updV (updV Fm0 0 (.int 0)) 0 (.int 1))))] := hD
      refine lv_iload hx hb dL_law_451 (lv_at hl 1 rfl) ?_
      refine lv_icmp_eq (x := 1) (y := 1) (tgt := 458) hx hb dL_law_453 (by decide) (fun c_34 => ?_) (fun c_34 => ?_)
      rotate_left
      · exact absurd (by decide) c_34
      refine lv_iload hx hb dL_law_458 (lv_at hl 1 rfl) ?_
      refine lv_if_ne (x := 1) (tgt := 475) hx hb dL_law_460 (by decide) (fun c_35 => ?_) (fun c_35 => ?_)
      rotate_left
      · exact absurd c_35 (by decide)
      refine lv_goto (tgt := 2265) hx hb dL_law_475 (by decide) ?_
      exact law_end hst C0 hA C hS (lv_sub hl [2, 6] rfl) (Nat.le_of_ble_eq_true rfl) (Nat.le_of_ble_eq_true rfl)
set_option maxHeartbeats 4000000 in
set_option maxRecDepth 100000 in
theorem law_5 {p : Program} {e : Env} {s : State} {m : MethodId} {below : List Frame} {meth : Method} {c : Code} {l : Launch} (hst : l.stackTraces = false) {b : Nat} {xs : Nat → Int32} {G : kG} {A : Nat → Prop} (C0 : lw_At p s m meth c b 6 xs) (hA : A = fun q : Nat => s.heap.size ≤ q) (C : kC G p s m c cL_law 8 RL A) {v1 : Int32} (hv1 : xs 1 = v1) {v2 : Int32} (hv2 : xs 2 = v2) {v3 : Int32} (hv3 : xs 3 = v3) {v4 : Int32} (hv4 : xs 4 = v4) {v5 : Int32} (hv5 : xs 5 = v5) {x0 : Nat} {Fx0 : Nat → Value} {x3 : Nat} {Fx3 : Nat → Value} {m0 : Nat} {Fm0 : Nat → Value} {aout : Nat} (e_x0_3 : Fx0 3 = .ref x3) (e_x3_2 : Fx3 2 = .int 0) (e_m0_1 : Fm0 1 = .int 0) {H : Heap} {locs : List Loc} {ls : Array Slot} (hP : va_P G.1 vwCl [(x0, .inr (11, ofL 17 Fx0)), (x3, .inr (7, ofL 5 Fx3)), (m0, .inr (12, ofL 88 Fm0)), (aout, .inl (G.2.2.2.2, 1, .inr (.inl (fun _ => 0))))] H) (hD : va_D A [(x0, .inr (11, ofL 17 Fx0)), (x3, .inr (7, ofL 5 Fx3)), (m0, .inr (12, ofL 88 Fm0)), (aout, .inl (G.2.2.2.2, 1, .inr (.inl (fun _ => 0))))]) (hS : va_S A s.heap H locs) (hl : lv_has ls 8 [(0, .ref b), (1, .ref x0), (2, .ref m0), (3, .ref aout), (4, .int 0)]) :
    W p l e room_1 s m #[Value.ref b] below meth c H locs 1000 20000 (lw_Z below #[Value.ref b] s) (F0 m 478 ls []) := by
  obtain ⟨hx, hb, hr, -, -, -, hX, hbl, hlocks, -⟩ := id C0
  have hbA : ¬ A b := by rw [hA]; exact Nat.not_le.mpr hbl
  refine lv_aload_n hx hb dL_law_478 rfl (lv_at hl 1 rfl) ?_
  refine lv_aload_n hx hb dL_law_479 rfl (lv_at hl 0 rfl) ?_
  refine lv_iload hx hb dL_law_480 (lv_at hl 4 rfl) ?_
  refine lv_iconst (v := 1) hx hb dL_law_482 (by decide) ?_
  refine lv_iadd hx hb dL_law_483 ?_
  refine k_eqi (y := 1) (by decide) ?_
  refine va_sld hx hb hX hbl hbA hS (k_in (by decide)) dL_law_484 ?_
  refine k_eqi (y := v1) hv1 ?_
  refine lv_aload_n hx hb dL_law_485 rfl (lv_at hl 0 rfl) ?_
  refine lv_iload hx hb dL_law_486 (lv_at hl 4 rfl) ?_
  refine lv_iconst (v := 2) hx hb dL_law_488 (by decide) ?_
  refine lv_iadd hx hb dL_law_489 ?_
  refine k_eqi (y := 2) (by decide) ?_
  refine va_sld hx hb hX hbl hbA hS (k_in (by decide)) dL_law_490 ?_
  refine k_eqi (y := v2) hv2 ?_
  refine lv_aload_n hx hb dL_law_491 rfl (lv_at hl 3 rfl) ?_
  refine k_callHi (wr := [(m0, .inr (12, ofL 88 Fm0))]) (rest := []) li_L_133 C (c_L_day l hst G H.size x0 v1 v2 aout Fx0 x3 Fx3 (fun _ => 0) e_x0_3 e_x3_2) (kR rfl) hP hD hS [0, 1, 3] [2] rfl rfl rfl rfl (by decide) rfl hl.1 rfl (Nat.le_of_ble_eq_true rfl) dL_law_492 (fun rr2 uu3 H locs hw1 hP hD hS => ?_)
  rcases hw1 with ⟨rfl, rfl, c_4⟩ | ⟨rfl, rfl, c_5⟩
  ·
    have hP : va_P G.1 vwCl [(m0, .inr (12, ofL 88 Fm0)), (aout, .inl (G.2.2.2.2, 1, .inr (.inl ((fun _ => 0))))), (x0, .inr (11, ofL 17 Fx0)), (x3, .inr (7, ofL 5 Fx3))] H := hP
    have hD : va_D A [(m0, .inr (12, ofL 88 Fm0)), (aout, .inl (G.2.2.2.2, 1, .inr (.inl ((fun _ => 0))))), (x0, .inr (11, ofL 17 Fx0)), (x3, .inr (7, ofL 5 Fx3))] := hD
    refine lv_istore (lv' := [(5, .int 1), (0, .ref b), (1, .ref x0), (2, .ref m0), (3, .ref aout), (4, .int 0)]) hx hb dL_law_495 hl (by decide) rfl (fun ls hl => ?_)
    refine lv_aload_n hx hb dL_law_497 rfl (lv_at hl 3 rfl) ?_
    refine lv_aload_n hx hb dL_law_498 rfl (lv_at hl 1 rfl) ?_
    refine lv_iload hx hb dL_law_499 (lv_at hl 5 rfl) ?_
    refine lv_iconst (v := 1) hx hb dL_law_501 (by decide) ?_
    refine lv_iadd hx hb dL_law_502 ?_
    refine k_eqi (y := 1) (by decide) ?_
    refine va_sld hx hb hX hbl hbA hS (k_in (by decide)) dL_law_503 ?_
    refine k_eqi (y := v1) hv1 ?_
    refine lv_aload_n hx hb dL_law_504 rfl (lv_at hl 1 rfl) ?_
    refine lv_iload hx hb dL_law_505 (lv_at hl 5 rfl) ?_
    refine lv_iconst (v := 2) hx hb dL_law_507 (by decide) ?_
    refine lv_iadd hx hb dL_law_508 ?_
    refine k_eqi (y := 2) (by decide) ?_
    refine va_sld hx hb hX hbl hbA hS (k_in (by decide)) dL_law_509 ?_
    refine k_eqi (y := v2) hv2 ?_
    refine k_callVi (wr := [(aout, .inl (G.2.2.2.2, 1, .inr (.inl ((fun _ => 0))))), (x0, .inr (11, ofL 17 Fx0)), (x3, .inr (7, ofL 5 Fx3))]) (rest := []) li_L_135 C (c_X12_day l G H.size m0 v1 v2 Fm0 e_m0_1) (kR rfl) hP hD hS [0] [1, 2, 3] rfl rfl rfl rfl (by decide) 0 12 rfl rfl rfl hl.1 rfl (Nat.le_of_ble_eq_true rfl) dL_law_510 (fun rr7 uu8 H locs hw6 hP hD hS => ?_)
    rcases hw6 with ⟨rfl, rfl, c_9⟩ | ⟨rfl, rfl, c_10⟩
    ·
      have hP : va_P G.1 vwCl [(aout, .inl (G.2.2.2.2, 1, .inr (.inl ((fun _ => 0))))), (x0, .inr (11, ofL 17 Fx0)), (x3, .inr (7, ofL 5 Fx3)), (m0, .inr (12, ofL 88 (updV (updV Fm0 0 (.int 0)) 0 (.int 1))))] H := hP
      have hD : va_D A [(aout, .inl (G.2.2.2.2, 1, .inr (.inl ((fun _ => 0))))), (x0, .inr (11, ofL 17 Fx0)), (x3, .inr (7, ofL 5 Fx3)), (m0, .inr (12, ofL 88 (updV (updV Fm0 0 (.int 0)) 0 (.int 1))))] := hD
      refine lv_istore (lv' := [(6, .int 0), (5, .int 1), (0, .ref b), (1, .ref x0), (2, .ref m0), (3, .ref aout), (4, .int 0)]) hx hb dL_law_513 hl (by decide) rfl (fun ls hl => ?_)
      refine lv_aload_n hx hb dL_law_515 rfl (lv_at hl 4 rfl) ?_
      refine k_callVi (wr := [(aout, .inl (G.2.2.2.2, 1, .inr (.inl ((fun _ => 0))))), (x0, .inr (11, ofL 17 Fx0)), (x3, .inr (7, ofL 5 Fx3))]) (rest := []) li_L_118 C (c_X12_thrown l G H.size m0 (updV (updV Fm0 0 (.int 0)) 0 (.int 1)) 1 rfl) (kR rfl) hP hD hS [3] [0, 1, 2] rfl rfl rfl rfl (by decide) 0 12 rfl rfl rfl hl.1 rfl (Nat.le_of_ble_eq_true rfl) dL_law_516 (fun rr12 uu13 H locs hw11 hP hD hS => ?_)
      obtain rfl : rr12 = 1 := hw11
      have hP : va_P G.1 vwCl [(aout, .inl (G.2.2.2.2, 1, .inr (.inl ((fun _ => 0))))), (x0, .inr (11, ofL 17 Fx0)), (x3, .inr (7, ofL 5 Fx3)), (m0, .inr (12, ofL 88 (updV (updV Fm0 0 (.int 0)) 0 (.int 1))))] H := hP
      have hD : va_D A [(aout, .inl (G.2.2.2.2, 1, .inr (.inl ((fun _ => 0))))), (x0, .inr (11, ofL 17 Fx0)), (x3, .inr (7, ofL 5 Fx3)), (m0, .inr (12, ofL 88 (updV (updV Fm0 0 (.int 0)) 0 (.int 1))))] := hD
      refine lv_iload hx hb dL_law_519 (lv_at hl 1 rfl) ?_
      refine lv_icmp_eq (x := 1) (y := 1) (tgt := 526) hx hb dL_law_521 (by decide) (fun c_14 => ?_) (fun c_14 => ?_)
      rotate_left
      · exact absurd (by decide) c_14
      refine lv_iload hx hb dL_law_526 (lv_at hl 1 rfl) ?_
      refine lv_if_ne (x := 1) (tgt := 543) hx hb dL_law_528 (by decide) (fun c_15 => ?_) (fun c_15 => ?_)
      rotate_left
      · exact absurd c_15 (by decide)
      refine lv_goto (tgt := 2265) hx hb dL_law_543 (by decide) ?_
      exact law_end hst C0 hA C hS (lv_sub hl [2, 6] rfl) (Nat.le_of_ble_eq_true rfl) (Nat.le_of_ble_eq_true rfl)
    ·
      have hP : va_P G.1 vwCl [(aout, .inl (G.2.2.2.2, 1, .inr (.inl ((fun _ => 0))))), (x0, .inr (11, ofL 17 Fx0)), (x3, .inr (7, ofL 5 Fx3)), (m0, .inr (12, ofL 88 (updV (updV Fm0 0 (.int 0)) 0 (.int 1))))] H := hP
      have hD : va_D A [(aout, .inl (G.2.2.2.2, 1, .inr (.inl ((fun _ => 0))))), (x0, .inr (11, ofL 17 Fx0)), (x3, .inr (7, ofL 5 Fx3)), (m0, .inr (12, ofL 88 (updV (updV Fm0 0 (.int 0)) 0 (.int 1))))] := hD
      refine lv_istore (lv' := [(6, .int 0), (5, .int 1), (0, .ref b), (1, .ref x0), (2, .ref m0), (3, .ref aout), (4, .int 0)]) hx hb dL_law_513 hl (by decide) rfl (fun ls hl => ?_)
      refine lv_aload_n hx hb dL_law_515 rfl (lv_at hl 4 rfl) ?_
      refine k_callVi (wr := [(aout, .inl (G.2.2.2.2, 1, .inr (.inl ((fun _ => 0))))), (x0, .inr (11, ofL 17 Fx0)), (x3, .inr (7, ofL 5 Fx3))]) (rest := []) li_L_118 C (c_X12_thrown l G H.size m0 (updV (updV Fm0 0 (.int 0)) 0 (.int 1)) 1 rfl) (kR rfl) hP hD hS [3] [0, 1, 2] rfl rfl rfl rfl (by decide) 0 12 rfl rfl rfl hl.1 rfl (Nat.le_of_ble_eq_true rfl) dL_law_516 (fun rr17 uu18 H locs hw16 hP hD hS => ?_)
      obtain rfl : rr17 = 1 := hw16
      have hP : va_P G.1 vwCl [(aout, .inl (G.2.2.2.2, 1, .inr (.inl ((fun _ => 0))))), (x0, .inr (11, ofL 17 Fx0)), (x3, .inr (7, ofL 5 Fx3)), (m0, .inr (12, ofL 88 (updV (updV Fm0 0 (.int 0)) 0 (.int 1))))] H := hP
      have hD : va_D A [(aout, .inl (G.2.2.2.2, 1, .inr (.inl ((fun _ => 0))))), (x0, .inr (11, ofL 17 Fx0)), (x3, .inr (7, ofL 5 Fx3)), (m0, .inr (12, ofL 88 (updV (updV Fm0 0 (.int 0)) 0 (.int 1))))] := hD
      refine lv_iload hx hb dL_law_519 (lv_at hl 1 rfl) ?_
      refine lv_icmp_eq (x := 1) (y := 1) (tgt := 526) hx hb dL_law_521 (by decide) (fun c_19 => ?_) (fun c_19 => ?_)
      rotate_left
      · exact absurd (by decide) c_19
      refine lv_iload hx hb dL_law_526 (lv_at hl 1 rfl) ?_
      refine lv_if_ne (x := 1) (tgt := 543) hx hb dL_law_528 (by decide) (fun c_20 => ?_) (fun c_20 => ?_)
      rotate_left
      · exact absurd c_20 (by decide)
      refine lv_goto (tgt := 2265) hx hb dL_law_543 (by decide) ?_
      exact law_end hst C0 hA C hS (lv_sub hl [2, 6] rfl) (Nat.le_of_ble_eq_true rfl) (Nat.le_of_ble_eq_true rfl)
  ·
    have hP : va_P G.1 vwCl [(m0, .inr (12, ofL 88 Fm0)), (aout, .inl (G.2.2.2.2, 1, .inr (.inl ((fun _ => 0))))), (x0, .inr (11, ofL 17 Fx0)), (x3, .inr (7, ofL 5 Fx3))] H := hP
    have hD : va_D A [(m0, .inr (12, ofL 88 Fm0)), (aout, .inl (G.2.2.2.2, 1, .inr (.inl ((fun _ => 0))))), (x0, .inr (11, ofL 17 Fx0)), (x3, .inr (7, ofL 5 Fx3))] := hD
    refine lv_istore (lv' := [(5, .int 1), (0, .ref b), (1, .ref x0), (2, .ref m0), (3, .ref aout), (4, .int 0)]) hx hb dL_law_495 hl (by decide) rfl (fun ls hl => ?_)
    refine lv_aload_n hx hb dL_law_497 rfl (lv_at hl 3 rfl) ?_
    refine lv_aload_n hx hb dL_law_498 rfl (lv_at hl 1 rfl) ?_
    refine lv_iload hx hb dL_law_499 (lv_at hl 5 rfl) ?_
    refine lv_iconst (v := 1) hx hb dL_law_501 (by decide) ?_
    refine lv_iadd hx hb dL_law_502 ?_
    refine k_eqi (y := 1) (by decide) ?_
    refine va_sld hx hb hX hbl hbA hS (k_in (by decide)) dL_law_503 ?_
    refine k_eqi (y := v1) hv1 ?_
    refine lv_aload_n hx hb dL_law_504 rfl (lv_at hl 1 rfl) ?_
    refine lv_iload hx hb dL_law_505 (lv_at hl 5 rfl) ?_
    refine lv_iconst (v := 2) hx hb dL_law_507 (by decide) ?_
    refine lv_iadd hx hb dL_law_508 ?_
    refine k_eqi (y := 2) (by decide) ?_
    refine va_sld hx hb hX hbl hbA hS (k_in (by decide)) dL_law_509 ?_
    refine k_eqi (y := v2) hv2 ?_
    refine k_callVi (wr := [(aout, .inl (G.2.2.2.2, 1, .inr (.inl ((fun _ => 0))))), (x0, .inr (11, ofL 17 Fx0)), (x3, .inr (7, ofL 5 Fx3))]) (rest := []) li_L_135 C (c_X12_day l G H.size m0 v1 v2 Fm0 e_m0_1) (kR rfl) hP hD hS [0] [1, 2, 3] rfl rfl rfl rfl (by decide) 0 12 rfl rfl rfl hl.1 rfl (Nat.le_of_ble_eq_true rfl) dL_law_510 (fun rr22 uu23 H locs hw21 hP hD hS => ?_)
    rcases hw21 with ⟨rfl, rfl, c_24⟩ | ⟨rfl, rfl, c_25⟩
    ·
      have hP : va_P G.1 vwCl [(aout, .inl (G.2.2.2.2, 1, .inr (.inl ((fun _ => 0))))), (x0, .inr (11, ofL 17 Fx0)), (x3, .inr (7, ofL 5 Fx3)), (m0, .inr (12, ofL 88 (updV (updV Fm0 0 (.int 0)) 0 (.int 1))))] H := hP
      have hD : va_D A [(aout, .inl (G.2.2.2.2, 1, .inr (.inl ((fun _ => 0))))), (x0, .inr (11, ofL 17 Fx0)), (x3, .inr (7, ofL 5 Fx3)), (m0, .inr (12, ofL 88 (updV (updV Fm0 0 (.int 0)) 0 (.int 1))))] := hD
      refine lv_istore (lv' := [(6, .int 0), (5, .int 1), (0, .ref b), (1, .ref x0), (2, .ref m0), (3, .ref aout), (4, .int 0)]) hx hb dL_law_513 hl (by decide) rfl (fun ls hl => ?_)
      refine lv_aload_n hx hb dL_law_515 rfl (lv_at hl 4 rfl) ?_
      refine k_callVi (wr := [(aout, .inl (G.2.2.2.2, 1, .inr (.inl ((fun _ => 0))))), (x0, .inr (11, ofL 17 Fx0)), (x3, .inr (7, ofL 5 Fx3))]) (rest := []) li_L_118 C (c_X12_thrown l G H.size m0 (updV (updV Fm0 0 (.int 0)) 0 (.int 1)) 1 rfl) (kR rfl) hP hD hS [3] [0, 1, 2] rfl rfl rfl rfl (by decide) 0 12 rfl rfl rfl hl.1 rfl (Nat.le_of_ble_eq_true rfl) dL_law_516 (fun rr27 uu28 H locs hw26 hP hD hS => ?_)
      obtain rfl : rr27 = 1 := hw26
      have hP : va_P G.1 vwCl [(aout, .inl (G.2.2.2.2, 1, .inr (.inl ((fun _ => 0))))), (x0, .inr (11, ofL 17 Fx0)), (x3, .inr (7, ofL 5 Fx3)), (m0, .inr (12, ofL 88 (updV (updV Fm0 0 (.int 0)) 0 (.int 1))))] H := hP
      have hD : va_D A [(aout, .inl (G.2.2.2.2, 1, .inr (.inl ((fun _ => 0))))), (x0, .inr (11, ofL 17 Fx0)), (x3, .inr (7, ofL 5 Fx3)), (m0, .inr (12, ofL 88 (updV (updV Fm0 0 (.int 0)) 0 (.int 1))))] := hD
      refine lv_iload hx hb dL_law_519 (lv_at hl 1 rfl) ?_
      refine lv_icmp_eq (x := 1) (y := 1) (tgt := 526) hx hb dL_law_521 (by decide) (fun c_29 => ?_) (fun c_29 => ?_)
      rotate_left
      · exact absurd (by decide) c_29
      refine lv_iload hx hb dL_law_526 (lv_at hl 1 rfl) ?_
      refine lv_if_ne (x := 1) (tgt := 543) hx hb dL_law_528 (by decide) (fun c_30 => ?_) (fun c_30 => ?_)
      rotate_left
      · exact absurd c_30 (by decide)
      refine lv_goto (tgt := 2265) hx hb dL_law_543 (by decide) ?_
      exact law_end hst C0 hA C hS (lv_sub hl [2, 6] rfl) (Nat.le_of_ble_eq_true rfl) (Nat.le_of_ble_eq_true rfl)
    ·
      have hP : va_P G.1 vwCl [(aout, .inl (G.2.2.2.2, 1, .inr (.inl ((fun _ => 0))))), (x0, .inr (11, ofL 17 Fx0)), (x3, .inr (7, ofL 5 Fx3)), (m0, .inr (12, ofL 88 (updV (updV Fm0 0 (.int 0)) 0 (.int 1))))] H := hP
      have hD : va_D A [(aout, .inl (G.2.2.2.2, 1, .inr (.inl ((fun _ => 0))))), (x0, .inr (11, ofL 17 Fx0)), (x3, .inr (7, ofL 5 Fx3)), (m0, .inr (12, ofL 88 (updV (updV Fm0 0 (.int 0)) 0 (.int 1))))] := hD
      refine lv_istore (lv' := [(6, .int 0), (5, .int 1), (0, .ref b), (1, .ref x0), (2, .ref m0), (3, .ref aout), (4, .int 0)]) hx hb dL_law_513 hl (by decide) rfl (fun ls hl => ?_)
      refine lv_aload_n hx hb dL_law_515 rfl (lv_at hl 4 rfl) ?_
      refine k_callVi (wr := [(aout, .inl (G.2.2.2.2, 1, .inr (.inl ((fun _ => 0))))), (x0, .inr (11, ofL 17 Fx0)), (x3, .inr (7, ofL 5 Fx3))]) (rest := []) li_L_118 C (c_X12_thrown l G H.size m0 (updV (updV Fm0 0 (.int 0)) 0 (.int 1)) 1 rfl) (kR rfl) hP hD hS [3] [0, 1, 2] rfl rfl rfl rfl (by decide) 0 12 rfl rfl rfl hl.1 rfl (Nat.le_of_ble_eq_true rfl) dL_law_516 (fun rr32 uu33 H locs hw31 hP hD hS => ?_)
      obtain rfl : rr32 = 1 := hw31
      have hP : va_P G.1 vwCl [(aout, .inl (G.2.2.2.2, 1, .inr (.inl ((fun _ => 0))))), (x0, .inr (11, ofL 17 Fx0)), (x3, .inr (7, ofL 5 Fx3)), (m0, .inr (12, ofL 88 (updV (updV Fm0 0 (.int 0)) 0 (.int 1))))] H := hP
      have hD : va_D A [(aout, .inl (G.2.2.2.2, 1, .inr (.inl ((fun _ => 0))))), (x0, .inr (11, ofL 17 Fx0)), (x3, .inr (7, ofL 5 Fx3)), (m0, .inr (12, ofL 88 (updV (updV Fm0 0 (.int 0)) 0 (.int 1))))] := hD
      refine lv_iload hx hb dL_law_519 (lv_at hl 1 rfl) ?_
      refine lv_icmp_eq (x := 1) (y := 1) (tgt := 526) hx hb dL_law_521 (by decide) (fun c_34 => ?_) (fun c_34 => ?_)
      rotate_left
      · exact absurd (by decide) c_34
      refine lv_iload hx hb dL_law_526 (lv_at hl 1 rfl) ?_
      refine lv_if_ne (x := 1) (tgt := 543) hx hb dL_law_528 (by decide) (fun c_35 => ?_) (fun c_35 => ?_)
      rotate_left
      · exact absurd c_35 (by decide)
      refine lv_goto (tgt := 2265) hx hb dL_law_543 (by decide) ?_
      exact law_end hst C0 hA C hS (lv_sub hl [2, 6] rfl) (Nat.le_of_ble_eq_true rfl) (Nat.le_of_ble_eq_true rfl)
set_option maxHeartbeats 4000000 in
set_option maxRecDepth 100000 in
theorem law_6 {p : Program} {e : Env} {s : State} {m : MethodId} {below : List Frame} {meth : Method} {c : Code} {l : Launch} (hst : l.stackTraces = false) {b : Nat} {xs : Nat → Int32} {G : kG} {A : Nat → Prop} (C0 : lw_At p s m meth c b 6 xs) (hA : A = fun q : Nat => s.heap.size ≤ q) (C : kC G p s m c cL_law 8 RL A) {v1 : Int32} (hv1 : xs 1 = v1) {v2 : Int32} (hv2 : xs 2 = v2) {v3 : Int32} (hv3 : xs 3 = v3) {v4 : Int32} (hv4 : xs 4 = v4) {v5 : Int32} (hv5 : xs 5 = v5) {x0 : Nat} {Fx0 : Nat → Value} {x3 : Nat} {Fx3 : Nat → Value} {m0 : Nat} {Fm0 : Nat → Value} {aout : Nat} (e_x0_3 : Fx0 3 = .ref x3) (e_x3_2 : Fx3 2 = .int 0) (e_m0_1 : Fm0 1 = .int 0) {H : Heap} {locs : List Loc} {ls : Array Slot} (hP : va_P G.1 vwCl [(x0, .inr (11, ofL 17 Fx0)), (x3, .inr (7, ofL 5 Fx3)), (m0, .inr (12, ofL 88 Fm0)), (aout, .inl (G.2.2.2.2, 1, .inr (.inl (fun _ => 0))))] H) (hD : va_D A [(x0, .inr (11, ofL 17 Fx0)), (x3, .inr (7, ofL 5 Fx3)), (m0, .inr (12, ofL 88 Fm0)), (aout, .inl (G.2.2.2.2, 1, .inr (.inl (fun _ => 0))))]) (hS : va_S A s.heap H locs) (hl : lv_has ls 8 [(0, .ref b), (1, .ref x0), (2, .ref m0), (3, .ref aout), (4, .int 0)]) :
    W p l e room_1 s m #[Value.ref b] below meth c H locs 1000 20000 (lw_Z below #[Value.ref b] s) (F0 m 546 ls []) := by
  obtain ⟨hx, hb, hr, -, -, -, hX, hbl, hlocks, -⟩ := id C0
  have hbA : ¬ A b := by rw [hA]; exact Nat.not_le.mpr hbl
  refine lv_aload_n hx hb dL_law_546 rfl (lv_at hl 1 rfl) ?_
  refine lv_aload_n hx hb dL_law_547 rfl (lv_at hl 0 rfl) ?_
  refine lv_iload hx hb dL_law_548 (lv_at hl 4 rfl) ?_
  refine lv_iconst (v := 1) hx hb dL_law_550 (by decide) ?_
  refine lv_iadd hx hb dL_law_551 ?_
  refine k_eqi (y := 1) (by decide) ?_
  refine va_sld hx hb hX hbl hbA hS (k_in (by decide)) dL_law_552 ?_
  refine k_eqi (y := v1) hv1 ?_
  refine lv_aload_n hx hb dL_law_553 rfl (lv_at hl 0 rfl) ?_
  refine lv_iload hx hb dL_law_554 (lv_at hl 4 rfl) ?_
  refine lv_iconst (v := 2) hx hb dL_law_556 (by decide) ?_
  refine lv_iadd hx hb dL_law_557 ?_
  refine k_eqi (y := 2) (by decide) ?_
  refine va_sld hx hb hX hbl hbA hS (k_in (by decide)) dL_law_558 ?_
  refine k_eqi (y := v2) hv2 ?_
  refine lv_aload_n hx hb dL_law_559 rfl (lv_at hl 3 rfl) ?_
  refine k_callHi (wr := [(m0, .inr (12, ofL 88 Fm0))]) (rest := []) li_L_136 C (c_L_chain l hst G H.size x0 v1 v2 aout Fx0 x3 Fx3 (fun _ => 0) e_x0_3 e_x3_2) (kR rfl) hP hD hS [0, 1, 3] [2] rfl rfl rfl rfl (by decide) rfl hl.1 rfl (Nat.le_of_ble_eq_true rfl) dL_law_560 (fun rr2 uu3 H locs hw1 hP hD hS => ?_)
  rcases hw1 with ⟨rfl, rfl, c_4⟩ | ⟨rfl, rfl, c_5⟩
  ·
    have hP : va_P G.1 vwCl [(m0, .inr (12, ofL 88 Fm0)), (aout, .inl (G.2.2.2.2, 1, .inr (.inl ((fun _ => 0))))), (x0, .inr (11, ofL 17 Fx0)), (x3, .inr (7, ofL 5 Fx3))] H := hP
    have hD : va_D A [(m0, .inr (12, ofL 88 Fm0)), (aout, .inl (G.2.2.2.2, 1, .inr (.inl ((fun _ => 0))))), (x0, .inr (11, ofL 17 Fx0)), (x3, .inr (7, ofL 5 Fx3))] := hD
    refine lv_istore (lv' := [(5, .int 1), (0, .ref b), (1, .ref x0), (2, .ref m0), (3, .ref aout), (4, .int 0)]) hx hb dL_law_563 hl (by decide) rfl (fun ls hl => ?_)
    refine lv_aload_n hx hb dL_law_565 rfl (lv_at hl 3 rfl) ?_
    refine lv_aload_n hx hb dL_law_566 rfl (lv_at hl 1 rfl) ?_
    refine lv_iload hx hb dL_law_567 (lv_at hl 5 rfl) ?_
    refine lv_iconst (v := 1) hx hb dL_law_569 (by decide) ?_
    refine lv_iadd hx hb dL_law_570 ?_
    refine k_eqi (y := 1) (by decide) ?_
    refine va_sld hx hb hX hbl hbA hS (k_in (by decide)) dL_law_571 ?_
    refine k_eqi (y := v1) hv1 ?_
    refine lv_aload_n hx hb dL_law_572 rfl (lv_at hl 1 rfl) ?_
    refine lv_iload hx hb dL_law_573 (lv_at hl 5 rfl) ?_
    refine lv_iconst (v := 2) hx hb dL_law_575 (by decide) ?_
    refine lv_iadd hx hb dL_law_576 ?_
    refine k_eqi (y := 2) (by decide) ?_
    refine va_sld hx hb hX hbl hbA hS (k_in (by decide)) dL_law_577 ?_
    refine k_eqi (y := v2) hv2 ?_
    refine k_callVi (wr := [(aout, .inl (G.2.2.2.2, 1, .inr (.inl ((fun _ => 0))))), (x0, .inr (11, ofL 17 Fx0)), (x3, .inr (7, ofL 5 Fx3))]) (rest := []) li_L_138 C (c_X12_chain l G H.size m0 v1 v2 Fm0 e_m0_1) (kR rfl) hP hD hS [0] [1, 2, 3] rfl rfl rfl rfl (by decide) 0 12 rfl rfl rfl hl.1 rfl (Nat.le_of_ble_eq_true rfl) dL_law_578 (fun rr7 uu8 H locs hw6 hP hD hS => ?_)
    rcases hw6 with ⟨rfl, rfl, c_9⟩ | ⟨rfl, rfl, c_10⟩
    ·
      have hP : va_P G.1 vwCl [(aout, .inl (G.2.2.2.2, 1, .inr (.inl ((fun _ => 0))))), (x0, .inr (11, ofL 17 Fx0)), (x3, .inr (7, ofL 5 Fx3)), (m0, .inr (12, ofL 88 (updV (updV Fm0 0 (.int 0)) 0 (.int 1))))] H := hP
      have hD : va_D A [(aout, .inl (G.2.2.2.2, 1, .inr (.inl ((fun _ => 0))))), (x0, .inr (11, ofL 17 Fx0)), (x3, .inr (7, ofL 5 Fx3)), (m0, .inr (12, ofL 88 (updV (updV Fm0 0 (.int 0)) 0 (.int 1))))] := hD
      refine lv_istore (lv' := [(6, .int 0), (5, .int 1), (0, .ref b), (1, .ref x0), (2, .ref m0), (3, .ref aout), (4, .int 0)]) hx hb dL_law_581 hl (by decide) rfl (fun ls hl => ?_)
      refine lv_aload_n hx hb dL_law_583 rfl (lv_at hl 4 rfl) ?_
      refine k_callVi (wr := [(aout, .inl (G.2.2.2.2, 1, .inr (.inl ((fun _ => 0))))), (x0, .inr (11, ofL 17 Fx0)), (x3, .inr (7, ofL 5 Fx3))]) (rest := []) li_L_118 C (c_X12_thrown l G H.size m0 (updV (updV Fm0 0 (.int 0)) 0 (.int 1)) 1 rfl) (kR rfl) hP hD hS [3] [0, 1, 2] rfl rfl rfl rfl (by decide) 0 12 rfl rfl rfl hl.1 rfl (Nat.le_of_ble_eq_true rfl) dL_law_584 (fun rr12 uu13 H locs hw11 hP hD hS => ?_)
      obtain rfl : rr12 = 1 := hw11
      have hP : va_P G.1 vwCl [(aout, .inl (G.2.2.2.2, 1, .inr (.inl ((fun _ => 0))))), (x0, .inr (11, ofL 17 Fx0)), (x3, .inr (7, ofL 5 Fx3)), (m0, .inr (12, ofL 88 (updV (updV Fm0 0 (.int 0)) 0 (.int 1))))] H := hP
      have hD : va_D A [(aout, .inl (G.2.2.2.2, 1, .inr (.inl ((fun _ => 0))))), (x0, .inr (11, ofL 17 Fx0)), (x3, .inr (7, ofL 5 Fx3)), (m0, .inr (12, ofL 88 (updV (updV Fm0 0 (.int 0)) 0 (.int 1))))] := hD
      refine lv_iload hx hb dL_law_587 (lv_at hl 1 rfl) ?_
      refine lv_icmp_eq (x := 1) (y := 1) (tgt := 594) hx hb dL_law_589 (by decide) (fun c_14 => ?_) (fun c_14 => ?_)
      rotate_left
      · exact absurd (by decide) c_14
      refine lv_iload hx hb dL_law_594 (lv_at hl 1 rfl) ?_
      refine lv_if_ne (x := 1) (tgt := 611) hx hb dL_law_596 (by decide) (fun c_15 => ?_) (fun c_15 => ?_)
      rotate_left
      · exact absurd c_15 (by decide)
      refine lv_goto (tgt := 2265) hx hb dL_law_611 (by decide) ?_
      exact law_end hst C0 hA C hS (lv_sub hl [2, 6] rfl) (Nat.le_of_ble_eq_true rfl) (Nat.le_of_ble_eq_true rfl)
    ·
      have hP : va_P G.1 vwCl [(aout, .inl (G.2.2.2.2, 1, .inr (.inl ((fun _ => 0))))), (x0, .inr (11, ofL 17 Fx0)), (x3, .inr (7, ofL 5 Fx3)), (m0, .inr (12, ofL 88 (updV (updV Fm0 0 (.int 0)) 0 (.int 1))))] H := hP
      have hD : va_D A [(aout, .inl (G.2.2.2.2, 1, .inr (.inl ((fun _ => 0))))), (x0, .inr (11, ofL 17 Fx0)), (x3, .inr (7, ofL 5 Fx3)), (m0, .inr (12, ofL 88 (updV (updV Fm0 0 (.int 0)) 0 (.int 1))))] := hD
      refine lv_istore (lv' := [(6, .int 0), (5, .int 1), (0, .ref b), (1, .ref x0), (2, .ref m0), (3, .ref aout), (4, .int 0)]) hx hb dL_law_581 hl (by decide) rfl (fun ls hl => ?_)
      refine lv_aload_n hx hb dL_law_583 rfl (lv_at hl 4 rfl) ?_
      refine k_callVi (wr := [(aout, .inl (G.2.2.2.2, 1, .inr (.inl ((fun _ => 0))))), (x0, .inr (11, ofL 17 Fx0)), (x3, .inr (7, ofL 5 Fx3))]) (rest := []) li_L_118 C (c_X12_thrown l G H.size m0 (updV (updV Fm0 0 (.int 0)) 0 (.int 1)) 1 rfl) (kR rfl) hP hD hS [3] [0, 1, 2] rfl rfl rfl rfl (by decide) 0 12 rfl rfl rfl hl.1 rfl (Nat.le_of_ble_eq_true rfl) dL_law_584 (fun rr17 uu18 H locs hw16 hP hD hS => ?_)
      obtain rfl : rr17 = 1 := hw16
      have hP : va_P G.1 vwCl [(aout, .inl (G.2.2.2.2, 1, .inr (.inl ((fun _ => 0))))), (x0, .inr (11, ofL 17 Fx0)), (x3, .inr (7, ofL 5 Fx3)), (m0, .inr (12, ofL 88 (updV (updV Fm0 0 (.int 0)) 0 (.int 1))))] H := hP
      have hD : va_D A [(aout, .inl (G.2.2.2.2, 1, .inr (.inl ((fun _ => 0))))), (x0, .inr (11, ofL 17 Fx0)), (x3, .inr (7, ofL 5 Fx3)), (m0, .inr (12, ofL 88 (updV (updV Fm0 0 (.int 0)) 0 (.int 1))))] := hD
      refine lv_iload hx hb dL_law_587 (lv_at hl 1 rfl) ?_
      refine lv_icmp_eq (x := 1) (y := 1) (tgt := 594) hx hb dL_law_589 (by decide) (fun c_19 => ?_) (fun c_19 => ?_)
      rotate_left
      · exact absurd (by decide) c_19
      refine lv_iload hx hb dL_law_594 (lv_at hl 1 rfl) ?_
      refine lv_if_ne (x := 1) (tgt := 611) hx hb dL_law_596 (by decide) (fun c_20 => ?_) (fun c_20 => ?_)
      rotate_left
      · exact absurd c_20 (by decide)
      refine lv_goto (tgt := 2265) hx hb dL_law_611 (by decide) ?_
      exact law_end hst C0 hA C hS (lv_sub hl [2, 6] rfl) (Nat.le_of_ble_eq_true rfl) (Nat.le_of_ble_eq_true rfl)
  ·
    have hP : va_P G.1 vwCl [(m0, .inr (12, ofL 88 Fm0)), (aout, .inl (G.2.2.2.2, 1, .inr (.inl ((fun _ => 0))))), (x0, .inr (11, ofL 17 Fx0)), (x3, .inr (7, ofL 5 Fx3))] H := hP
    have hD : va_D A [(m0, .inr (12, ofL 88 Fm0)), (aout, .inl (G.2.2.2.2, 1, .inr (.inl ((fun _ => 0))))), (x0, .inr (11, ofL 17 Fx0)), (x3, .inr (7, ofL 5 Fx3))] := hD
    refine lv_istore (lv' := [(5, .int 1), (0, .ref b), (1, .ref x0), (2, .ref m0), (3, .ref aout), (4, .int 0)]) hx hb dL_law_563 hl (by decide) rfl (fun ls hl => ?_)
    refine lv_aload_n hx hb dL_law_565 rfl (lv_at hl 3 rfl) ?_
    refine lv_aload_n hx hb dL_law_566 rfl (lv_at hl 1 rfl) ?_
    refine lv_iload hx hb dL_law_567 (lv_at hl 5 rfl) ?_
    refine lv_iconst (v := 1) hx hb dL_law_569 (by decide) ?_
    refine lv_iadd hx hb dL_law_570 ?_
    refine k_eqi (y := 1) (by decide) ?_
    refine va_sld hx hb hX hbl hbA hS (k_in (by decide)) dL_law_571 ?_
    refine k_eqi (y := v1) hv1 ?_
    refine lv_aload_n hx hb dL_law_572 rfl (lv_at hl 1 rfl) ?_
    refine lv_iload hx hb dL_law_573 (lv_at hl 5 rfl) ?_
    refine lv_iconst (v := 2) hx hb dL_law_575 (by decide) ?_
    refine lv_iadd hx hb dL_law_576 ?_
    refine k_eqi (y := 2) (by decide) ?_
    refine va_sld hx hb hX hbl hbA hS (k_in (by decide)) dL_law_577 ?_
    refine k_eqi (y := v2) hv2 ?_
    refine k_callVi (wr := [(aout, .inl (G.2.2.2.2, 1, .inr (.inl ((fun _ => 0))))), (x0, .inr (11, ofL 17 Fx0)), (x3, .inr (7, ofL 5 Fx3))]) (rest := []) li_L_138 C (c_X12_chain l G H.size m0 v1 v2 Fm0 e_m0_1) (kR rfl) hP hD hS [0] [1, 2, 3] rfl rfl rfl rfl (by decide) 0 12 rfl rfl rfl hl.1 rfl (Nat.le_of_ble_eq_true rfl) dL_law_578 (fun rr22 uu23 H locs hw21 hP hD hS => ?_)
    rcases hw21 with ⟨rfl, rfl, c_24⟩ | ⟨rfl, rfl, c_25⟩
    ·
      have hP : va_P G.1 vwCl [(aout, .inl (G.2.2.2.2, 1, .inr (.inl ((fun _ => 0))))), (x0, .inr (11, ofL 17 Fx0)), (x3, .inr (7, ofL 5 Fx3)), (m0, .inr (12, ofL 88 (updV (updV Fm0 0 (.int 0)) 0 (.int 1))))] H := hP
      have hD : va_D A [(aout, .inl (G.2.2.2.2, 1, .inr (.inl ((fun _ => 0))))), (x0, .inr (11, ofL 17 Fx0)), (x3, .inr (7, ofL 5 Fx3)), (m0, .inr (12, ofL 88 (updV (updV Fm0 0 (.int 0)) 0 (.int 1))))] := hD
      refine lv_istore (lv' := [(6, .int 0), (5, .int 1), (0, .ref b), (1, .ref x0), (2, .ref m0), (3, .ref aout), (4, .int 0)]) hx hb dL_law_581 hl (by decide) rfl (fun ls hl => ?_)
      refine lv_aload_n hx hb dL_law_583 rfl (lv_at hl 4 rfl) ?_
      refine k_callVi (wr := [(aout, .inl (G.2.2.2.2, 1, .inr (.inl ((fun _ => 0))))), (x0, .inr (11, ofL 17 Fx0)), (x3, .inr (7, ofL 5 Fx3))]) (rest := []) li_L_118 C (c_X12_thrown l G H.size m0 (updV (updV Fm0 0 (.int 0)) 0 (.int 1)) 1 rfl) (kR rfl) hP hD hS [3] [0, 1, 2] rfl rfl rfl rfl (by decide) 0 12 rfl rfl rfl hl.1 rfl (Nat.le_of_ble_eq_true rfl) dL_law_584 (fun rr27 uu28 H locs hw26 hP hD hS => ?_)
      obtain rfl : rr27 = 1 := hw26
      have hP : va_P G.1 vwCl [(aout, .inl (G.2.2.2.2, 1, .inr (.inl ((fun _ => 0))))), (x0, .inr (11, ofL 17 Fx0)), (x3, .inr (7, ofL 5 Fx3)), (m0, .inr (12, ofL 88 (updV (updV Fm0 0 (.int 0)) 0 (.int 1))))] H := hP
      have hD : va_D A [(aout, .inl (G.2.2.2.2, 1, .inr (.inl ((fun _ => 0))))), (x0, .inr (11, ofL 17 Fx0)), (x3, .inr (7, ofL 5 Fx3)), (m0, .inr (12, ofL 88 (updV (updV Fm0 0 (.int 0)) 0 (.int 1))))] := hD
      refine lv_iload hx hb dL_law_587 (lv_at hl 1 rfl) ?_
      refine lv_icmp_eq (x := 1) (y := 1) (tgt := 594) hx hb dL_law_589 (by decide) (fun c_29 => ?_) (fun c_29 => ?_)
      rotate_left
      · exact absurd (by decide) c_29
      refine lv_iload hx hb dL_law_594 (lv_at hl 1 rfl) ?_
      refine lv_if_ne (x := 1) (tgt := 611) hx hb dL_law_596 (by decide) (fun c_30 => ?_) (fun c_30 => ?_)
      rotate_left
      · exact absurd c_30 (by decide)
      refine lv_goto (tgt := 2265) hx hb dL_law_611 (by decide) ?_
      exact law_end hst C0 hA C hS (lv_sub hl [2, 6] rfl) (Nat.le_of_ble_eq_true rfl) (Nat.le_of_ble_eq_true rfl)
    ·
      have hP : va_P G.1 vwCl [(aout, .inl (G.2.2.2.2, 1, .inr (.inl ((fun _ => 0))))), (x0, .inr (11, ofL 17 Fx0)), (x3, .inr (7, ofL 5 Fx3)), (m0, .inr (12, ofL 88 (updV (updV Fm0 0 (.int 0)) 0 (.int 1))))] H := hP
      have hD : va_D A [(aout, .inl (G.2.2.2.2, 1, .inr (.inl ((fun _ => 0))))), (x0, .inr (11, ofL 17 Fx0)), (x3, .inr (7, ofL 5 Fx3)), (m0, .inr (12, ofL 88 (updV (updV Fm0 0 (.int 0)) 0 (.int 1))))] := hD
      refine lv_istore (lv' := [(6, .int 0), (5, .int 1), (0, .ref b), (1, .ref x0), (2, .ref m0), (3, .ref aout), (4, .int 0)]) hx hb dL_law_581 hl (by decide) rfl (fun ls hl => ?_)
      refine lv_aload_n hx hb dL_law_583 rfl (lv_at hl 4 rfl) ?_
      refine k_callVi (wr := [(aout, .inl (G.2.2.2.2, 1, .inr (.inl ((fun _ => 0))))), (x0, .inr (11, ofL 17 Fx0)), (x3, .inr (7, ofL 5 Fx3))]) (rest := []) li_L_118 C (c_X12_thrown l G H.size m0 (updV (updV Fm0 0 (.int 0)) 0 (.int 1)) 1 rfl) (kR rfl) hP hD hS [3] [0, 1, 2] rfl rfl rfl rfl (by decide) 0 12 rfl rfl rfl hl.1 rfl (Nat.le_of_ble_eq_true rfl) dL_law_584 (fun rr32 uu33 H locs hw31 hP hD hS => ?_)
      obtain rfl : rr32 = 1 := hw31
      have hP : va_P G.1 vwCl [(aout, .inl (G.2.2.2.2, 1, .inr (.inl ((fun _ => 0))))), (x0, .inr (11, ofL 17 Fx0)), (x3, .inr (7, ofL 5 Fx3)), (m0, .inr (12, ofL 88 (updV (updV Fm0 0 (.int 0)) 0 (.int 1))))] H := hP
      have hD : va_D A [(aout, .inl (G.2.2.2.2, 1, .inr (.inl ((fun _ => 0))))), (x0, .inr (11, ofL 17 Fx0)), (x3, .inr (7, ofL 5 Fx3)), (m0, .inr (12, ofL 88 (updV (updV Fm0 0 (.int 0)) 0 (.int 1))))] := hD
      refine lv_iload hx hb dL_law_587 (lv_at hl 1 rfl) ?_
      refine lv_icmp_eq (x := 1) (y := 1) (tgt := 594) hx hb dL_law_589 (by decide) (fun c_34 => ?_) (fun c_34 => ?_)
      rotate_left
      · exact absurd (by decide) c_34
      refine lv_iload hx hb dL_law_594 (lv_at hl 1 rfl) ?_
      refine lv_if_ne (x := 1) (tgt := 611) hx hb dL_law_596 (by decide) (fun c_35 => ?_) (fun c_35 => ?_)
      rotate_left
      · exact absurd c_35 (by decide)
      refine lv_goto (tgt := 2265) hx hb dL_law_611 (by decide) ?_
      exact law_end hst C0 hA C hS (lv_sub hl [2, 6] rfl) (Nat.le_of_ble_eq_true rfl) (Nat.le_of_ble_eq_true rfl)
set_option maxHeartbeats 4000000 in
set_option maxRecDepth 100000 in
theorem law_7 {p : Program} {e : Env} {s : State} {m : MethodId} {below : List Frame} {meth : Method} {c : Code} {l : Launch} (hst : l.stackTraces = false) {b : Nat} {xs : Nat → Int32} {G : kG} {A : Nat → Prop} (C0 : lw_At p s m meth c b 6 xs) (hA : A = fun q : Nat => s.heap.size ≤ q) (C : kC G p s m c cL_law 8 RL A) {v1 : Int32} (hv1 : xs 1 = v1) {v2 : Int32} (hv2 : xs 2 = v2) {v3 : Int32} (hv3 : xs 3 = v3) {v4 : Int32} (hv4 : xs 4 = v4) {v5 : Int32} (hv5 : xs 5 = v5) {x0 : Nat} {Fx0 : Nat → Value} {x3 : Nat} {Fx3 : Nat → Value} {m0 : Nat} {Fm0 : Nat → Value} {aout : Nat} (e_x0_3 : Fx0 3 = .ref x3) (e_x3_2 : Fx3 2 = .int 0) (e_m0_1 : Fm0 1 = .int 0) {H : Heap} {locs : List Loc} {ls : Array Slot} (hP : va_P G.1 vwCl [(x0, .inr (11, ofL 17 Fx0)), (x3, .inr (7, ofL 5 Fx3)), (m0, .inr (12, ofL 88 Fm0)), (aout, .inl (G.2.2.2.2, 1, .inr (.inl (fun _ => 0))))] H) (hD : va_D A [(x0, .inr (11, ofL 17 Fx0)), (x3, .inr (7, ofL 5 Fx3)), (m0, .inr (12, ofL 88 Fm0)), (aout, .inl (G.2.2.2.2, 1, .inr (.inl (fun _ => 0))))]) (hS : va_S A s.heap H locs) (hl : lv_has ls 8 [(0, .ref b), (1, .ref x0), (2, .ref m0), (3, .ref aout), (4, .int 0)]) :
    W p l e room_1 s m #[Value.ref b] below meth c H locs 1000 20000 (lw_Z below #[Value.ref b] s) (F0 m 614 ls []) := by
  obtain ⟨hx, hb, hr, -, -, -, hX, hbl, hlocks, -⟩ := id C0
  have hbA : ¬ A b := by rw [hA]; exact Nat.not_le.mpr hbl
  refine lv_aload_n hx hb dL_law_614 rfl (lv_at hl 1 rfl) ?_
  refine lv_aload_n hx hb dL_law_615 rfl (lv_at hl 0 rfl) ?_
  refine lv_iload hx hb dL_law_616 (lv_at hl 4 rfl) ?_
  refine lv_iconst (v := 1) hx hb dL_law_618 (by decide) ?_
  refine lv_iadd hx hb dL_law_619 ?_
  refine k_eqi (y := 1) (by decide) ?_
  refine va_sld hx hb hX hbl hbA hS (k_in (by decide)) dL_law_620 ?_
  refine k_eqi (y := v1) hv1 ?_
  refine lv_aload_n hx hb dL_law_621 rfl (lv_at hl 0 rfl) ?_
  refine lv_iload hx hb dL_law_622 (lv_at hl 4 rfl) ?_
  refine lv_iconst (v := 2) hx hb dL_law_624 (by decide) ?_
  refine lv_iadd hx hb dL_law_625 ?_
  refine k_eqi (y := 2) (by decide) ?_
  refine va_sld hx hb hX hbl hbA hS (k_in (by decide)) dL_law_626 ?_
  refine k_eqi (y := v2) hv2 ?_
  refine lv_aload_n hx hb dL_law_627 rfl (lv_at hl 0 rfl) ?_
  refine lv_iload hx hb dL_law_628 (lv_at hl 4 rfl) ?_
  refine lv_iconst (v := 3) hx hb dL_law_630 (by decide) ?_
  refine lv_iadd hx hb dL_law_631 ?_
  refine k_eqi (y := 3) (by decide) ?_
  refine va_sld hx hb hX hbl hbA hS (k_in (by decide)) dL_law_632 ?_
  refine k_eqi (y := v3) hv3 ?_
  refine lv_aload_n hx hb dL_law_633 rfl (lv_at hl 3 rfl) ?_
  refine k_callHi (wr := [(m0, .inr (12, ofL 88 Fm0))]) (rest := []) li_L_139 C (c_L_become l hst G H.size x0 v1 v2 v3 aout Fx0 x3 Fx3 (fun _ => 0) e_x0_3 e_x3_2) (kR rfl) hP hD hS [0, 1, 3] [2] rfl rfl rfl rfl (by decide) rfl hl.1 rfl (Nat.le_of_ble_eq_true rfl) dL_law_634 (fun rr2 uu3 H locs hw1 hP hD hS => ?_)
  rcases hw1 with ⟨rfl, rfl, c_4⟩ | ⟨rfl, rfl, c_5⟩
  ·
    have hP : va_P G.1 vwCl [(m0, .inr (12, ofL 88 Fm0)), (aout, .inl (G.2.2.2.2, 1, .inr (.inl ((fun _ => 0))))), (x0, .inr (11, ofL 17 Fx0)), (x3, .inr (7, ofL 5 Fx3))] H := hP
    have hD : va_D A [(m0, .inr (12, ofL 88 Fm0)), (aout, .inl (G.2.2.2.2, 1, .inr (.inl ((fun _ => 0))))), (x0, .inr (11, ofL 17 Fx0)), (x3, .inr (7, ofL 5 Fx3))] := hD
    refine lv_istore (lv' := [(5, .int 1), (0, .ref b), (1, .ref x0), (2, .ref m0), (3, .ref aout), (4, .int 0)]) hx hb dL_law_637 hl (by decide) rfl (fun ls hl => ?_)
    refine lv_aload_n hx hb dL_law_639 rfl (lv_at hl 3 rfl) ?_
    refine lv_aload_n hx hb dL_law_640 rfl (lv_at hl 1 rfl) ?_
    refine lv_iload hx hb dL_law_641 (lv_at hl 5 rfl) ?_
    refine lv_iconst (v := 1) hx hb dL_law_643 (by decide) ?_
    refine lv_iadd hx hb dL_law_644 ?_
    refine k_eqi (y := 1) (by decide) ?_
    refine va_sld hx hb hX hbl hbA hS (k_in (by decide)) dL_law_645 ?_
    refine k_eqi (y := v1) hv1 ?_
    refine lv_aload_n hx hb dL_law_646 rfl (lv_at hl 1 rfl) ?_
    refine lv_iload hx hb dL_law_647 (lv_at hl 5 rfl) ?_
    refine lv_iconst (v := 2) hx hb dL_law_649 (by decide) ?_
    refine lv_iadd hx hb dL_law_650 ?_
    refine k_eqi (y := 2) (by decide) ?_
    refine va_sld hx hb hX hbl hbA hS (k_in (by decide)) dL_law_651 ?_
    refine k_eqi (y := v2) hv2 ?_
    refine lv_aload_n hx hb dL_law_652 rfl (lv_at hl 1 rfl) ?_
    refine lv_iload hx hb dL_law_653 (lv_at hl 5 rfl) ?_
    refine lv_iconst (v := 3) hx hb dL_law_655 (by decide) ?_
    refine lv_iadd hx hb dL_law_656 ?_
    refine k_eqi (y := 3) (by decide) ?_
    refine va_sld hx hb hX hbl hbA hS (k_in (by decide)) dL_law_657 ?_
    refine k_eqi (y := v3) hv3 ?_
    refine k_callVi (wr := [(aout, .inl (G.2.2.2.2, 1, .inr (.inl ((fun _ => 0))))), (x0, .inr (11, ofL 17 Fx0)), (x3, .inr (7, ofL 5 Fx3))]) (rest := []) li_L_142 C (c_X12_become l G H.size m0 v1 v2 v3 Fm0 e_m0_1) (kR rfl) hP hD hS [0] [1, 2, 3] rfl rfl rfl rfl (by decide) 0 12 rfl rfl rfl hl.1 rfl (Nat.le_of_ble_eq_true rfl) dL_law_658 (fun rr7 uu8 H locs hw6 hP hD hS => ?_)
    rcases hw6 with ⟨rfl, rfl, c_9⟩ | ⟨rfl, rfl, c_10⟩
    ·
      have hP : va_P G.1 vwCl [(aout, .inl (G.2.2.2.2, 1, .inr (.inl ((fun _ => 0))))), (x0, .inr (11, ofL 17 Fx0)), (x3, .inr (7, ofL 5 Fx3)), (m0, .inr (12, ofL 88 (updV (updV Fm0 0 (.int 0)) 0 (.int 1))))] H := hP
      have hD : va_D A [(aout, .inl (G.2.2.2.2, 1, .inr (.inl ((fun _ => 0))))), (x0, .inr (11, ofL 17 Fx0)), (x3, .inr (7, ofL 5 Fx3)), (m0, .inr (12, ofL 88 (updV (updV Fm0 0 (.int 0)) 0 (.int 1))))] := hD
      refine lv_istore (lv' := [(6, .int 0), (5, .int 1), (0, .ref b), (1, .ref x0), (2, .ref m0), (3, .ref aout), (4, .int 0)]) hx hb dL_law_661 hl (by decide) rfl (fun ls hl => ?_)
      refine lv_aload_n hx hb dL_law_663 rfl (lv_at hl 4 rfl) ?_
      refine k_callVi (wr := [(aout, .inl (G.2.2.2.2, 1, .inr (.inl ((fun _ => 0))))), (x0, .inr (11, ofL 17 Fx0)), (x3, .inr (7, ofL 5 Fx3))]) (rest := []) li_L_118 C (c_X12_thrown l G H.size m0 (updV (updV Fm0 0 (.int 0)) 0 (.int 1)) 1 rfl) (kR rfl) hP hD hS [3] [0, 1, 2] rfl rfl rfl rfl (by decide) 0 12 rfl rfl rfl hl.1 rfl (Nat.le_of_ble_eq_true rfl) dL_law_664 (fun rr12 uu13 H locs hw11 hP hD hS => ?_)
      obtain rfl : rr12 = 1 := hw11
      have hP : va_P G.1 vwCl [(aout, .inl (G.2.2.2.2, 1, .inr (.inl ((fun _ => 0))))), (x0, .inr (11, ofL 17 Fx0)), (x3, .inr (7, ofL 5 Fx3)), (m0, .inr (12, ofL 88 (updV (updV Fm0 0 (.int 0)) 0 (.int 1))))] H := hP
      have hD : va_D A [(aout, .inl (G.2.2.2.2, 1, .inr (.inl ((fun _ => 0))))), (x0, .inr (11, ofL 17 Fx0)), (x3, .inr (7, ofL 5 Fx3)), (m0, .inr (12, ofL 88 (updV (updV Fm0 0 (.int 0)) 0 (.int 1))))] := hD
      refine lv_iload hx hb dL_law_667 (lv_at hl 1 rfl) ?_
      refine lv_icmp_eq (x := 1) (y := 1) (tgt := 674) hx hb dL_law_669 (by decide) (fun c_14 => ?_) (fun c_14 => ?_)
      rotate_left
      · exact absurd (by decide) c_14
      refine lv_iload hx hb dL_law_674 (lv_at hl 1 rfl) ?_
      refine lv_if_ne (x := 1) (tgt := 691) hx hb dL_law_676 (by decide) (fun c_15 => ?_) (fun c_15 => ?_)
      rotate_left
      · exact absurd c_15 (by decide)
      refine lv_goto (tgt := 2265) hx hb dL_law_691 (by decide) ?_
      exact law_end hst C0 hA C hS (lv_sub hl [2, 6] rfl) (Nat.le_of_ble_eq_true rfl) (Nat.le_of_ble_eq_true rfl)
    ·
      have hP : va_P G.1 vwCl [(aout, .inl (G.2.2.2.2, 1, .inr (.inl ((fun _ => 0))))), (x0, .inr (11, ofL 17 Fx0)), (x3, .inr (7, ofL 5 Fx3)), (m0, .inr (12, ofL 88 (updV (updV Fm0 0 (.int 0)) 0 (.int 1))))] H := hP
      have hD : va_D A [(aout, .inl (G.2.2.2.2, 1, .inr (.inl ((fun _ => 0))))), (x0, .inr (11, ofL 17 Fx0)), (x3, .inr (7, ofL 5 Fx3)), (m0, .inr (12, ofL 88 (updV (updV Fm0 0 (.int 0)) 0 (.int 1))))] := hD
      refine lv_istore (lv' := [(6, .int 0), (5, .int 1), (0, .ref b), (1, .ref x0), (2, .ref m0), (3, .ref aout), (4, .int 0)]) hx hb dL_law_661 hl (by decide) rfl (fun ls hl => ?_)
      refine lv_aload_n hx hb dL_law_663 rfl (lv_at hl 4 rfl) ?_
      refine k_callVi (wr := [(aout, .inl (G.2.2.2.2, 1, .inr (.inl ((fun _ => 0))))), (x0, .inr (11, ofL 17 Fx0)), (x3, .inr (7, ofL 5 Fx3))]) (rest := []) li_L_118 C (c_X12_thrown l G H.size m0 (updV (updV Fm0 0 (.int 0)) 0 (.int 1)) 1 rfl) (kR rfl) hP hD hS [3] [0, 1, 2] rfl rfl rfl rfl (by decide) 0 12 rfl rfl rfl hl.1 rfl (Nat.le_of_ble_eq_true rfl) dL_law_664 (fun rr17 uu18 H locs hw16 hP hD hS => ?_)
      obtain rfl : rr17 = 1 := hw16
      have hP : va_P G.1 vwCl [(aout, .inl (G.2.2.2.2, 1, .inr (.inl ((fun _ => 0))))), (x0, .inr (11, ofL 17 Fx0)), (x3, .inr (7, ofL 5 Fx3)), (m0, .inr (12, ofL 88 (updV (updV Fm0 0 (.int 0)) 0 (.int 1))))] H := hP
      have hD : va_D A [(aout, .inl (G.2.2.2.2, 1, .inr (.inl ((fun _ => 0))))), (x0, .inr (11, ofL 17 Fx0)), (x3, .inr (7, ofL 5 Fx3)), (m0, .inr (12, ofL 88 (updV (updV Fm0 0 (.int 0)) 0 (.int 1))))] := hD
      refine lv_iload hx hb dL_law_667 (lv_at hl 1 rfl) ?_
      refine lv_icmp_eq (x := 1) (y := 1) (tgt := 674) hx hb dL_law_669 (by decide) (fun c_19 => ?_) (fun c_19 => ?_)
      rotate_left
      · exact absurd (by decide) c_19
      refine lv_iload hx hb dL_law_674 (lv_at hl 1 rfl) ?_
      refine lv_if_ne (x := 1) (tgt := 691) hx hb dL_law_676 (by decide) (fun c_20 => ?_) (fun c_20 => ?_)
      rotate_left
      · exact absurd c_20 (by decide)
      refine lv_goto (tgt := 2265) hx hb dL_law_691 (by decide) ?_
      exact law_end hst C0 hA C hS (lv_sub hl [2, 6] rfl) (Nat.le_of_ble_eq_true rfl) (Nat.le_of_ble_eq_true rfl)
  ·
    have hP : va_P G.1 vwCl [(m0, .inr (12, ofL 88 Fm0)), (aout, .inl (G.2.2.2.2, 1, .inr (.inl ((fun _ => 0))))), (x0, .inr (11, ofL 17 Fx0)), (x3, .inr (7, ofL 5 Fx3))] H := hP
    have hD : va_D A [(m0, .inr (12, ofL 88 Fm0)), (aout, .inl (G.2.2.2.2, 1, .inr (.inl ((fun _ => 0))))), (x0, .inr (11, ofL 17 Fx0)), (x3, .inr (7, ofL 5 Fx3))] := hD
    refine lv_istore (lv' := [(5, .int 1), (0, .ref b), (1, .ref x0), (2, .ref m0), (3, .ref aout), (4, .int 0)]) hx hb dL_law_637 hl (by decide) rfl (fun ls hl => ?_)
    refine lv_aload_n hx hb dL_law_639 rfl (lv_at hl 3 rfl) ?_
    refine lv_aload_n hx hb dL_law_640 rfl (lv_at hl 1 rfl) ?_
    refine lv_iload hx hb dL_law_641 (lv_at hl 5 rfl) ?_
    refine lv_iconst (v := 1) hx hb dL_law_643 (by decide) ?_
    refine lv_iadd hx hb dL_law_644 ?_
    refine k_eqi (y := 1) (by decide) ?_
    refine va_sld hx hb hX hbl hbA hS (k_in (by decide)) dL_law_645 ?_
    refine k_eqi (y := v1) hv1 ?_
    refine lv_aload_n hx hb dL_law_646 rfl (lv_at hl 1 rfl) ?_
    refine lv_iload hx hb dL_law_647 (lv_at hl 5 rfl) ?_
    refine lv_iconst (v := 2) hx hb dL_law_649 (by decide) ?_
    refine lv_iadd hx hb dL_law_650 ?_
    refine k_eqi (y := 2) (by decide) ?_
    refine va_sld hx hb hX hbl hbA hS (k_in (by decide)) dL_law_651 ?_
    refine k_eqi (y := v2) hv2 ?_
    refine lv_aload_n hx hb dL_law_652 rfl (lv_at hl 1 rfl) ?_
    refine lv_iload hx hb dL_law_653 (lv_at hl 5 rfl) ?_
    refine lv_iconst (v := 3) hx hb dL_law_655 (by decide) ?_
    refine lv_iadd hx hb dL_law_656 ?_
    refine k_eqi (y := 3) (by decide) ?_
    refine va_sld hx hb hX hbl hbA hS (k_in (by decide)) dL_law_657 ?_
    refine k_eqi (y := v3) hv3 ?_
    refine k_callVi (wr := [(aout, .inl (G.2.2.2.2, 1, .inr (.inl ((fun _ => 0))))), (x0, .inr (11, ofL 17 Fx0)), (x3, .inr (7, ofL 5 Fx3))]) (rest := []) li_L_142 C (c_X12_become l G H.size m0 v1 v2 v3 Fm0 e_m0_1) (kR rfl) hP hD hS [0] [1, 2, 3] rfl rfl rfl rfl (by decide) 0 12 rfl rfl rfl hl.1 rfl (Nat.le_of_ble_eq_true rfl) dL_law_658 (fun rr22 uu23 H locs hw21 hP hD hS => ?_)
    rcases hw21 with ⟨rfl, rfl, c_24⟩ | ⟨rfl, rfl, c_25⟩
    ·
      have hP : va_P G.1 vwCl [(aout, .inl (G.2.2.2.2, 1, .inr (.inl ((fun _ => 0))))), (x0, .inr (11, ofL 17 Fx0)), (x3, .inr (7, ofL 5 Fx3)), (m0, .inr (12, ofL 88 (updV (updV Fm0 0 (.int 0)) 0 (.int 1))))] H := hP
      have hD : va_D A [(aout, .inl (G.2.2.2.2, 1, .inr (.inl ((fun _ => 0))))), (x0, .inr (11, ofL 17 Fx0)), (x3, .inr (7, ofL 5 Fx3)), (m0, .inr (12, ofL 88 (updV (updV Fm0 0 (.int 0)) 0 (.int 1))))] := hD
      refine lv_istore (lv' := [(6, .int 0), (5, .int 1), (0, .ref b), (1, .ref x0), (2, .ref m0), (3, .ref aout), (4, .int 0)]) hx hb dL_law_661 hl (by decide) rfl (fun ls hl => ?_)
      refine lv_aload_n hx hb dL_law_663 rfl (lv_at hl 4 rfl) ?_
      refine k_callVi (wr := [(aout, .inl (G.2.2.2.2, 1, .inr (.inl ((fun _ => 0))))), (x0, .inr (11, ofL 17 Fx0)), (x3, .inr (7, ofL 5 Fx3))]) (rest := []) li_L_118 C (c_X12_thrown l G H.size m0 (updV (updV Fm0 0 (.int 0)) 0 (.int 1)) 1 rfl) (kR rfl) hP hD hS [3] [0, 1, 2] rfl rfl rfl rfl (by decide) 0 12 rfl rfl rfl hl.1 rfl (Nat.le_of_ble_eq_true rfl) dL_law_664 (fun rr27 uu28 H locs hw26 hP hD hS => ?_)
      obtain rfl : rr27 = 1 := hw26
      have hP : va_P G.1 vwCl [(aout, .inl (G.2.2.2.2, 1, .inr (.inl ((fun _ => 0))))), (x0, .inr (11, ofL 17 Fx0)), (x3, .inr (7, ofL 5 Fx3)), (m0, .inr (12, ofL 88 (updV (updV Fm0 0 (.int 0)) 0 (.int 1))))] H := hP
      have hD : va_D A [(aout, .inl (G.2.2.2.2, 1, .inr (.inl ((fun _ => 0))))), (x0, .inr (11, ofL 17 Fx0)), (x3, .inr (7, ofL 5 Fx3)), (m0, .inr (12, ofL 88 (updV (updV Fm0 0 (.int 0)) 0 (.int 1))))] := hD
      refine lv_iload hx hb dL_law_667 (lv_at hl 1 rfl) ?_
      refine lv_icmp_eq (x := 1) (y := 1) (tgt := 674) hx hb dL_law_669 (by decide) (fun c_29 => ?_) (fun c_29 => ?_)
      rotate_left
      · exact absurd (by decide) c_29
      refine lv_iload hx hb dL_law_674 (lv_at hl 1 rfl) ?_
      refine lv_if_ne (x := 1) (tgt := 691) hx hb dL_law_676 (by decide) (fun c_30 => ?_) (fun c_30 => ?_)
      rotate_left
      · exact absurd c_30 (by decide)
      refine lv_goto (tgt := 2265) hx hb dL_law_691 (by decide) ?_
      exact law_end hst C0 hA C hS (lv_sub hl [2, 6] rfl) (Nat.le_of_ble_eq_true rfl) (Nat.le_of_ble_eq_true rfl)
    ·
      have hP : va_P G.1 vwCl [(aout, .inl (G.2.2.2.2, 1, .inr (.inl ((fun _ => 0))))), (x0, .inr (11, ofL 17 Fx0)), (x3, .inr (7, ofL 5 Fx3)), (m0, .inr (12, ofL 88 (updV (updV Fm0 0 (.int 0)) 0 (.int 1))))] H := hP
      have hD : va_D A [(aout, .inl (G.2.2.2.2, 1, .inr (.inl ((fun _ => 0))))), (x0, .inr (11, ofL 17 Fx0)), (x3, .inr (7, ofL 5 Fx3)), (m0, .inr (12, ofL 88 (updV (updV Fm0 0 (.int 0)) 0 (.int 1))))] := hD
      refine lv_istore (lv' := [(6, .int 0), (5, .int 1), (0, .ref b), (1, .ref x0), (2, .ref m0), (3, .ref aout), (4, .int 0)]) hx hb dL_law_661 hl (by decide) rfl (fun ls hl => ?_)
      refine lv_aload_n hx hb dL_law_663 rfl (lv_at hl 4 rfl) ?_
      refine k_callVi (wr := [(aout, .inl (G.2.2.2.2, 1, .inr (.inl ((fun _ => 0))))), (x0, .inr (11, ofL 17 Fx0)), (x3, .inr (7, ofL 5 Fx3))]) (rest := []) li_L_118 C (c_X12_thrown l G H.size m0 (updV (updV Fm0 0 (.int 0)) 0 (.int 1)) 1 rfl) (kR rfl) hP hD hS [3] [0, 1, 2] rfl rfl rfl rfl (by decide) 0 12 rfl rfl rfl hl.1 rfl (Nat.le_of_ble_eq_true rfl) dL_law_664 (fun rr32 uu33 H locs hw31 hP hD hS => ?_)
      obtain rfl : rr32 = 1 := hw31
      have hP : va_P G.1 vwCl [(aout, .inl (G.2.2.2.2, 1, .inr (.inl ((fun _ => 0))))), (x0, .inr (11, ofL 17 Fx0)), (x3, .inr (7, ofL 5 Fx3)), (m0, .inr (12, ofL 88 (updV (updV Fm0 0 (.int 0)) 0 (.int 1))))] H := hP
      have hD : va_D A [(aout, .inl (G.2.2.2.2, 1, .inr (.inl ((fun _ => 0))))), (x0, .inr (11, ofL 17 Fx0)), (x3, .inr (7, ofL 5 Fx3)), (m0, .inr (12, ofL 88 (updV (updV Fm0 0 (.int 0)) 0 (.int 1))))] := hD
      refine lv_iload hx hb dL_law_667 (lv_at hl 1 rfl) ?_
      refine lv_icmp_eq (x := 1) (y := 1) (tgt := 674) hx hb dL_law_669 (by decide) (fun c_34 => ?_) (fun c_34 => ?_)
      rotate_left
      · exact absurd (by decide) c_34
      refine lv_iload hx hb dL_law_674 (lv_at hl 1 rfl) ?_
      refine lv_if_ne (x := 1) (tgt := 691) hx hb dL_law_676 (by decide) (fun c_35 => ?_) (fun c_35 => ?_)
      rotate_left
      · exact absurd c_35 (by decide)
      refine lv_goto (tgt := 2265) hx hb dL_law_691 (by decide) ?_
      exact law_end hst C0 hA C hS (lv_sub hl [2, 6] rfl) (Nat.le_of_ble_eq_true rfl) (Nat.le_of_ble_eq_true rfl)
