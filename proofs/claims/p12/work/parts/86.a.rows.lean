theorem dL_law_212 : decode cL_law 212 = .ok (.aload_n 1, 1) := by decide +kernel
theorem dL_law_213 : decode cL_law 213 = .ok (.aload_n 0, 1) := by decide +kernel
theorem dL_law_214 : decode cL_law 214 = .ok (.iload 4, 2) := by decide +kernel
theorem dL_law_216 : decode cL_law 216 = .ok (.iconst 1, 1) := by decide +kernel
theorem dL_law_217 : decode cL_law 217 = .ok (.iadd, 1) := by decide +kernel
theorem dL_law_218 : decode cL_law 218 = .ok (.iaload, 1) := by decide +kernel
theorem dL_law_219 : decode cL_law 219 = .ok (.aload_n 0, 1) := by decide +kernel
theorem dL_law_220 : decode cL_law 220 = .ok (.iload 4, 2) := by decide +kernel
theorem dL_law_222 : decode cL_law 222 = .ok (.iconst 2, 1) := by decide +kernel
theorem dL_law_223 : decode cL_law 223 = .ok (.iadd, 1) := by decide +kernel
theorem dL_law_224 : decode cL_law 224 = .ok (.iaload, 1) := by decide +kernel
theorem dL_law_225 : decode cL_law 225 = .ok (.aload_n 0, 1) := by decide +kernel
theorem dL_law_226 : decode cL_law 226 = .ok (.iload 4, 2) := by decide +kernel
theorem dL_law_228 : decode cL_law 228 = .ok (.iconst 3, 1) := by decide +kernel
theorem dL_law_229 : decode cL_law 229 = .ok (.iadd, 1) := by decide +kernel
theorem dL_law_230 : decode cL_law 230 = .ok (.iaload, 1) := by decide +kernel
theorem dL_law_231 : decode cL_law 231 = .ok (.aload_n 0, 1) := by decide +kernel
theorem dL_law_232 : decode cL_law 232 = .ok (.iload 4, 2) := by decide +kernel
theorem dL_law_234 : decode cL_law 234 = .ok (.iconst 4, 1) := by decide +kernel
theorem dL_law_235 : decode cL_law 235 = .ok (.iadd, 1) := by decide +kernel
theorem dL_law_236 : decode cL_law 236 = .ok (.iaload, 1) := by decide +kernel
theorem dL_law_237 : decode cL_law 237 = .ok (.aload_n 0, 1) := by decide +kernel
theorem dL_law_238 : decode cL_law 238 = .ok (.iload 4, 2) := by decide +kernel
theorem dL_law_240 : decode cL_law 240 = .ok (.iconst 5, 1) := by decide +kernel
theorem dL_law_241 : decode cL_law 241 = .ok (.iadd, 1) := by decide +kernel
theorem dL_law_242 : decode cL_law 242 = .ok (.iaload, 1) := by decide +kernel
theorem tw_537 : (Jvm.Cond.methodLink "MarshBellsLaw" (107 : Nat) ({ cls := "MarshBells", name := "feed", desc := "(IIIII)I" } : Jvm.MethodName)) ∈ lw_tbl := tk_3 (List.mem_of_getElem? (i := 57) rfl)
theorem tw_540 : (Jvm.Cond.code ({ cls := "MarshBells", name := "feed", desc := "(IIIII)I" } : Jvm.MethodName) prog_1_method_2_code (6 : Nat) (Option.some Jvm.ClassFile.FieldType.int)) ∈ lw_tbl := tk_3 (List.mem_of_getElem? (i := 60) rfl)
theorem tw_538 : (Jvm.Cond.instanceMethod ({ cls := "MarshBells", name := "feed", desc := "(IIIII)I" } : Jvm.MethodName)) ∈ lw_tbl := tk_3 (List.mem_of_getElem? (i := 58) rfl)
theorem tw_539 : (Jvm.Cond.selects "MarshBells" ({ cls := "MarshBells", name := "feed", desc := "(IIIII)I" } : Jvm.MethodName) ({ cls := "MarshBells", name := "feed", desc := "(IIIII)I" } : Jvm.MethodName)) ∈ lw_tbl := tk_3 (List.mem_of_getElem? (i := 59) rfl)
theorem li_L_107 : kLV RL 107 RX11 yX11_feed cX11_feed 6 (some .int) 5 := ⟨tw_537, tw_538, tw_539, tw_540, tw_1, by decide +kernel⟩
theorem dL_law_243 : decode cL_law 243 = .ok (.invokevirtual 107, 3) := by decide +kernel
theorem dL_law_246 : decode cL_law 246 = .ok (.pop, 1) := by decide +kernel
theorem dL_law_247 : decode cL_law 247 = .ok (.aload_n 2, 1) := by decide +kernel
theorem dL_law_248 : decode cL_law 248 = .ok (.aload_n 0, 1) := by decide +kernel
theorem dL_law_249 : decode cL_law 249 = .ok (.iload 4, 2) := by decide +kernel
theorem dL_law_251 : decode cL_law 251 = .ok (.iconst 1, 1) := by decide +kernel
theorem dL_law_252 : decode cL_law 252 = .ok (.iadd, 1) := by decide +kernel
theorem dL_law_253 : decode cL_law 253 = .ok (.iaload, 1) := by decide +kernel
theorem dL_law_254 : decode cL_law 254 = .ok (.aload_n 0, 1) := by decide +kernel
theorem dL_law_255 : decode cL_law 255 = .ok (.iload 4, 2) := by decide +kernel
theorem dL_law_257 : decode cL_law 257 = .ok (.iconst 2, 1) := by decide +kernel
theorem dL_law_258 : decode cL_law 258 = .ok (.iadd, 1) := by decide +kernel
theorem dL_law_259 : decode cL_law 259 = .ok (.iaload, 1) := by decide +kernel
theorem dL_law_260 : decode cL_law 260 = .ok (.aload_n 0, 1) := by decide +kernel
theorem dL_law_261 : decode cL_law 261 = .ok (.iload 4, 2) := by decide +kernel
theorem dL_law_263 : decode cL_law 263 = .ok (.iconst 3, 1) := by decide +kernel
theorem dL_law_264 : decode cL_law 264 = .ok (.iadd, 1) := by decide +kernel
theorem dL_law_265 : decode cL_law 265 = .ok (.iaload, 1) := by decide +kernel
theorem dL_law_266 : decode cL_law 266 = .ok (.aload_n 0, 1) := by decide +kernel
theorem dL_law_267 : decode cL_law 267 = .ok (.iload 4, 2) := by decide +kernel
theorem dL_law_269 : decode cL_law 269 = .ok (.iconst 4, 1) := by decide +kernel
theorem dL_law_270 : decode cL_law 270 = .ok (.iadd, 1) := by decide +kernel
theorem dL_law_271 : decode cL_law 271 = .ok (.iaload, 1) := by decide +kernel
theorem dL_law_272 : decode cL_law 272 = .ok (.aload_n 0, 1) := by decide +kernel
theorem dL_law_273 : decode cL_law 273 = .ok (.iload 4, 2) := by decide +kernel
theorem dL_law_275 : decode cL_law 275 = .ok (.iconst 5, 1) := by decide +kernel
theorem dL_law_276 : decode cL_law 276 = .ok (.iadd, 1) := by decide +kernel
theorem dL_law_277 : decode cL_law 277 = .ok (.iaload, 1) := by decide +kernel
theorem tw_1692 : (Jvm.Cond.methodLink "MarshBellsLaw" (111 : Nat) ({ cls := "MarshBellsModel", name := "feed", desc := "(IIIII)I" } : Jvm.MethodName)) ∈ lw_tbl := tk_8 (List.mem_of_getElem? (i := 12) rfl)
theorem tw_1695 : (Jvm.Cond.code ({ cls := "MarshBellsModel", name := "feed", desc := "(IIIII)I" } : Jvm.MethodName) prog_14_method_7_code (6 : Nat) (Option.some Jvm.ClassFile.FieldType.int)) ∈ lw_tbl := tk_8 (List.mem_of_getElem? (i := 15) rfl)
theorem tw_1693 : (Jvm.Cond.instanceMethod ({ cls := "MarshBellsModel", name := "feed", desc := "(IIIII)I" } : Jvm.MethodName)) ∈ lw_tbl := tk_8 (List.mem_of_getElem? (i := 13) rfl)
theorem tw_1694 : (Jvm.Cond.selects "MarshBellsModel" ({ cls := "MarshBellsModel", name := "feed", desc := "(IIIII)I" } : Jvm.MethodName) ({ cls := "MarshBellsModel", name := "feed", desc := "(IIIII)I" } : Jvm.MethodName)) ∈ lw_tbl := tk_8 (List.mem_of_getElem? (i := 14) rfl)
theorem li_L_111 : kLV RL 111 RX12 yX12_feed cX12_feed 6 (some .int) 5 := ⟨tw_1692, tw_1693, tw_1694, tw_1695, tw_13, by decide +kernel⟩
theorem dL_law_278 : decode cL_law 278 = .ok (.invokevirtual 111, 3) := by decide +kernel
theorem dL_law_281 : decode cL_law 281 = .ok (.pop, 1) := by decide +kernel
theorem dL_law_282 : decode cL_law 282 = .ok (.goto 1229, 3) := by decide +kernel
theorem dL_law_285 : decode cL_law 285 = .ok (.aload_n 1, 1) := by decide +kernel
theorem dL_law_286 : decode cL_law 286 = .ok (.aload_n 0, 1) := by decide +kernel
theorem dL_law_287 : decode cL_law 287 = .ok (.iload 4, 2) := by decide +kernel
theorem dL_law_289 : decode cL_law 289 = .ok (.iconst 1, 1) := by decide +kernel
theorem dL_law_290 : decode cL_law 290 = .ok (.iadd, 1) := by decide +kernel
theorem dL_law_291 : decode cL_law 291 = .ok (.iaload, 1) := by decide +kernel
theorem dL_law_292 : decode cL_law 292 = .ok (.aload_n 3, 1) := by decide +kernel
theorem tw_729 : (Jvm.Cond.methodLink "MarshBellsLaw" (112 : Nat) ({ cls := "MarshBellsLaw", name := "house", desc := "(LMarshBells;I[J)I" } : Jvm.MethodName)) ∈ lw_tbl := tk_4 (List.mem_of_getElem? (i := 9) rfl)
theorem tw_0 : (Jvm.Cond.initialized "MarshBellsLaw") ∈ lw_tbl := tk_1 (List.mem_of_getElem? (i := 0) rfl)
theorem tw_731 : (Jvm.Cond.codeWith ({ cls := "MarshBellsLaw", name := "house", desc := "(LMarshBells;I[J)I" } : Jvm.MethodName) method_3_code (4 : Nat) (Option.some Jvm.ClassFile.FieldType.int) [((0 : Nat), (9 : Nat), (12 : Nat), (13 : Nat))]) ∈ lw_tbl := tk_4 (List.mem_of_getElem? (i := 11) rfl)
theorem tw_730 : (Jvm.Cond.static ({ cls := "MarshBellsLaw", name := "house", desc := "(LMarshBells;I[J)I" } : Jvm.MethodName)) ∈ lw_tbl := tk_4 (List.mem_of_getElem? (i := 10) rfl)
theorem li_L_112 : kLH RL 112 yL_house cL_house 4 (some .int) [(0, 9, 12, 13)] 3 := ⟨tw_729, tw_730, tw_731, tw_0, by decide +kernel⟩
theorem dL_law_293 : decode cL_law 293 = .ok (.invokestatic 112, 3) := by decide +kernel
theorem dL_law_296 : decode cL_law 296 = .ok (.istore 5, 2) := by decide +kernel
theorem dL_law_298 : decode cL_law 298 = .ok (.aload_n 2, 1) := by decide +kernel
theorem dL_law_299 : decode cL_law 299 = .ok (.aload_n 0, 1) := by decide +kernel
theorem dL_law_300 : decode cL_law 300 = .ok (.iload 4, 2) := by decide +kernel
theorem dL_law_302 : decode cL_law 302 = .ok (.iconst 1, 1) := by decide +kernel
theorem dL_law_303 : decode cL_law 303 = .ok (.iadd, 1) := by decide +kernel
theorem dL_law_304 : decode cL_law 304 = .ok (.iaload, 1) := by decide +kernel
theorem tw_1700 : (Jvm.Cond.methodLink "MarshBellsLaw" (117 : Nat) ({ cls := "MarshBellsModel", name := "house", desc := "(I)I" } : Jvm.MethodName)) ∈ lw_tbl := tk_8 (List.mem_of_getElem? (i := 20) rfl)
theorem tw_1703 : (Jvm.Cond.code ({ cls := "MarshBellsModel", name := "house", desc := "(I)I" } : Jvm.MethodName) prog_14_method_36_code (2 : Nat) (Option.some Jvm.ClassFile.FieldType.int)) ∈ lw_tbl := tk_8 (List.mem_of_getElem? (i := 23) rfl)
theorem tw_1701 : (Jvm.Cond.instanceMethod ({ cls := "MarshBellsModel", name := "house", desc := "(I)I" } : Jvm.MethodName)) ∈ lw_tbl := tk_8 (List.mem_of_getElem? (i := 21) rfl)
theorem tw_1702 : (Jvm.Cond.selects "MarshBellsModel" ({ cls := "MarshBellsModel", name := "house", desc := "(I)I" } : Jvm.MethodName) ({ cls := "MarshBellsModel", name := "house", desc := "(I)I" } : Jvm.MethodName)) ∈ lw_tbl := tk_8 (List.mem_of_getElem? (i := 22) rfl)
theorem li_L_117 : kLV RL 117 RX12 yX12_house cX12_house 2 (some .int) 1 := ⟨tw_1700, tw_1701, tw_1702, tw_1703, tw_13, by decide +kernel⟩
theorem dL_law_305 : decode cL_law 305 = .ok (.invokevirtual 117, 3) := by decide +kernel
theorem dL_law_308 : decode cL_law 308 = .ok (.istore 6, 2) := by decide +kernel
theorem dL_law_310 : decode cL_law 310 = .ok (.goto 1201, 3) := by decide +kernel
theorem dL_law_313 : decode cL_law 313 = .ok (.aload_n 1, 1) := by decide +kernel
theorem tw_545 : (Jvm.Cond.methodLink "MarshBellsLaw" (118 : Nat) ({ cls := "MarshBells", name := "fault", desc := "()I" } : Jvm.MethodName)) ∈ lw_tbl := tk_3 (List.mem_of_getElem? (i := 65) rfl)
theorem tw_548 : (Jvm.Cond.code ({ cls := "MarshBells", name := "fault", desc := "()I" } : Jvm.MethodName) prog_1_method_4_code (1 : Nat) (Option.some Jvm.ClassFile.FieldType.int)) ∈ lw_tbl := tk_3 (List.mem_of_getElem? (i := 68) rfl)
theorem tw_546 : (Jvm.Cond.instanceMethod ({ cls := "MarshBells", name := "fault", desc := "()I" } : Jvm.MethodName)) ∈ lw_tbl := tk_3 (List.mem_of_getElem? (i := 66) rfl)
theorem tw_547 : (Jvm.Cond.selects "MarshBells" ({ cls := "MarshBells", name := "fault", desc := "()I" } : Jvm.MethodName) ({ cls := "MarshBells", name := "fault", desc := "()I" } : Jvm.MethodName)) ∈ lw_tbl := tk_3 (List.mem_of_getElem? (i := 67) rfl)
theorem li_L_118 : kLV RL 118 RX11 yX11_fault cX11_fault 1 (some .int) 0 := ⟨tw_545, tw_546, tw_547, tw_548, tw_1, by decide +kernel⟩
theorem dL_law_314 : decode cL_law 314 = .ok (.invokevirtual 118, 3) := by decide +kernel
theorem dL_law_317 : decode cL_law 317 = .ok (.pop, 1) := by decide +kernel
theorem dL_law_318 : decode cL_law 318 = .ok (.aload_n 2, 1) := by decide +kernel
theorem tw_1815 : (Jvm.Cond.methodLink "MarshBellsLaw" (122 : Nat) ({ cls := "MarshBellsModel", name := "fault", desc := "()I" } : Jvm.MethodName)) ∈ lw_tbl := tk_8 (List.mem_of_getElem? (i := 135) rfl)
theorem tw_1818 : (Jvm.Cond.code ({ cls := "MarshBellsModel", name := "fault", desc := "()I" } : Jvm.MethodName) prog_14_method_37_code (1 : Nat) (Option.some Jvm.ClassFile.FieldType.int)) ∈ lw_tbl := tk_8 (List.mem_of_getElem? (i := 138) rfl)
theorem tw_1816 : (Jvm.Cond.instanceMethod ({ cls := "MarshBellsModel", name := "fault", desc := "()I" } : Jvm.MethodName)) ∈ lw_tbl := tk_8 (List.mem_of_getElem? (i := 136) rfl)
theorem tw_1817 : (Jvm.Cond.selects "MarshBellsModel" ({ cls := "MarshBellsModel", name := "fault", desc := "()I" } : Jvm.MethodName) ({ cls := "MarshBellsModel", name := "fault", desc := "()I" } : Jvm.MethodName)) ∈ lw_tbl := tk_8 (List.mem_of_getElem? (i := 137) rfl)
theorem li_L_122 : kLV RL 122 RX12 yX12_fault cX12_fault 1 (some .int) 0 := ⟨tw_1815, tw_1816, tw_1817, tw_1818, tw_13, by decide +kernel⟩
theorem dL_law_319 : decode cL_law 319 = .ok (.invokevirtual 122, 3) := by decide +kernel
theorem dL_law_322 : decode cL_law 322 = .ok (.pop, 1) := by decide +kernel
theorem dL_law_323 : decode cL_law 323 = .ok (.goto 1188, 3) := by decide +kernel
theorem dL_law_326 : decode cL_law 326 = .ok (.aload_n 1, 1) := by decide +kernel
theorem dL_law_327 : decode cL_law 327 = .ok (.aload_n 0, 1) := by decide +kernel
theorem dL_law_328 : decode cL_law 328 = .ok (.iload 4, 2) := by decide +kernel
theorem dL_law_330 : decode cL_law 330 = .ok (.iconst 1, 1) := by decide +kernel
theorem dL_law_331 : decode cL_law 331 = .ok (.iadd, 1) := by decide +kernel
theorem dL_law_332 : decode cL_law 332 = .ok (.iaload, 1) := by decide +kernel
theorem dL_law_333 : decode cL_law 333 = .ok (.aload_n 3, 1) := by decide +kernel
theorem tw_989 : (Jvm.Cond.methodLink "MarshBellsLaw" (123 : Nat) ({ cls := "MarshBellsLaw", name := "count", desc := "(LMarshBells;I[J)I" } : Jvm.MethodName)) ∈ lw_tbl := tk_5 (List.mem_of_getElem? (i := 29) rfl)
theorem tw_991 : (Jvm.Cond.codeWith ({ cls := "MarshBellsLaw", name := "count", desc := "(LMarshBells;I[J)I" } : Jvm.MethodName) method_4_code (4 : Nat) (Option.some Jvm.ClassFile.FieldType.int) [((0 : Nat), (9 : Nat), (12 : Nat), (18 : Nat))]) ∈ lw_tbl := tk_5 (List.mem_of_getElem? (i := 31) rfl)
theorem tw_990 : (Jvm.Cond.static ({ cls := "MarshBellsLaw", name := "count", desc := "(LMarshBells;I[J)I" } : Jvm.MethodName)) ∈ lw_tbl := tk_5 (List.mem_of_getElem? (i := 30) rfl)
theorem li_L_123 : kLH RL 123 yL_count cL_count 4 (some .int) [(0, 9, 12, 18)] 3 := ⟨tw_989, tw_990, tw_991, tw_0, by decide +kernel⟩
theorem dL_law_334 : decode cL_law 334 = .ok (.invokestatic 123, 3) := by decide +kernel
theorem dL_law_337 : decode cL_law 337 = .ok (.istore 5, 2) := by decide +kernel
theorem dL_law_339 : decode cL_law 339 = .ok (.aload_n 2, 1) := by decide +kernel
theorem dL_law_340 : decode cL_law 340 = .ok (.aload_n 0, 1) := by decide +kernel
theorem dL_law_341 : decode cL_law 341 = .ok (.iload 4, 2) := by decide +kernel
theorem dL_law_343 : decode cL_law 343 = .ok (.iconst 1, 1) := by decide +kernel
theorem dL_law_344 : decode cL_law 344 = .ok (.iadd, 1) := by decide +kernel
theorem dL_law_345 : decode cL_law 345 = .ok (.iaload, 1) := by decide +kernel
theorem tw_1819 : (Jvm.Cond.methodLink "MarshBellsLaw" (125 : Nat) ({ cls := "MarshBellsModel", name := "count", desc := "(I)I" } : Jvm.MethodName)) ∈ lw_tbl := tk_8 (List.mem_of_getElem? (i := 139) rfl)
theorem tw_1822 : (Jvm.Cond.code ({ cls := "MarshBellsModel", name := "count", desc := "(I)I" } : Jvm.MethodName) prog_14_method_50_code (2 : Nat) (Option.some Jvm.ClassFile.FieldType.int)) ∈ lw_tbl := tk_8 (List.mem_of_getElem? (i := 142) rfl)
theorem tw_1820 : (Jvm.Cond.instanceMethod ({ cls := "MarshBellsModel", name := "count", desc := "(I)I" } : Jvm.MethodName)) ∈ lw_tbl := tk_8 (List.mem_of_getElem? (i := 140) rfl)
theorem tw_1821 : (Jvm.Cond.selects "MarshBellsModel" ({ cls := "MarshBellsModel", name := "count", desc := "(I)I" } : Jvm.MethodName) ({ cls := "MarshBellsModel", name := "count", desc := "(I)I" } : Jvm.MethodName)) ∈ lw_tbl := tk_8 (List.mem_of_getElem? (i := 141) rfl)
theorem li_L_125 : kLV RL 125 RX12 yX12_count cX12_count 2 (some .int) 1 := ⟨tw_1819, tw_1820, tw_1821, tw_1822, tw_13, by decide +kernel⟩
theorem dL_law_346 : decode cL_law 346 = .ok (.invokevirtual 125, 3) := by decide +kernel
theorem dL_law_349 : decode cL_law 349 = .ok (.istore 6, 2) := by decide +kernel
theorem dL_law_351 : decode cL_law 351 = .ok (.goto 1160, 3) := by decide +kernel
theorem dL_law_354 : decode cL_law 354 = .ok (.aload_n 1, 1) := by decide +kernel
theorem dL_law_355 : decode cL_law 355 = .ok (.aload_n 0, 1) := by decide +kernel
theorem dL_law_356 : decode cL_law 356 = .ok (.iload 4, 2) := by decide +kernel
theorem dL_law_358 : decode cL_law 358 = .ok (.iconst 1, 1) := by decide +kernel
theorem dL_law_359 : decode cL_law 359 = .ok (.iadd, 1) := by decide +kernel
theorem dL_law_360 : decode cL_law 360 = .ok (.iaload, 1) := by decide +kernel
theorem dL_law_361 : decode cL_law 361 = .ok (.aload_n 0, 1) := by decide +kernel
theorem dL_law_362 : decode cL_law 362 = .ok (.iload 4, 2) := by decide +kernel
theorem dL_law_364 : decode cL_law 364 = .ok (.iconst 2, 1) := by decide +kernel
theorem dL_law_365 : decode cL_law 365 = .ok (.iadd, 1) := by decide +kernel
theorem dL_law_366 : decode cL_law 366 = .ok (.iaload, 1) := by decide +kernel
theorem dL_law_367 : decode cL_law 367 = .ok (.aload_n 3, 1) := by decide +kernel
theorem tw_1032 : (Jvm.Cond.methodLink "MarshBellsLaw" (126 : Nat) ({ cls := "MarshBellsLaw", name := "lesson", desc := "(LMarshBells;II[J)I" } : Jvm.MethodName)) ∈ lw_tbl := tk_5 (List.mem_of_getElem? (i := 72) rfl)
theorem tw_1034 : (Jvm.Cond.codeWith ({ cls := "MarshBellsLaw", name := "lesson", desc := "(LMarshBells;II[J)I" } : Jvm.MethodName) method_5_code (5 : Nat) (Option.some Jvm.ClassFile.FieldType.int) [((0 : Nat), (10 : Nat), (13 : Nat), (18 : Nat))]) ∈ lw_tbl := tk_5 (List.mem_of_getElem? (i := 74) rfl)
theorem tw_1033 : (Jvm.Cond.static ({ cls := "MarshBellsLaw", name := "lesson", desc := "(LMarshBells;II[J)I" } : Jvm.MethodName)) ∈ lw_tbl := tk_5 (List.mem_of_getElem? (i := 73) rfl)
theorem li_L_126 : kLH RL 126 yL_lesson cL_lesson 5 (some .int) [(0, 10, 13, 18)] 4 := ⟨tw_1032, tw_1033, tw_1034, tw_0, by decide +kernel⟩
theorem dL_law_368 : decode cL_law 368 = .ok (.invokestatic 126, 3) := by decide +kernel
theorem dL_law_371 : decode cL_law 371 = .ok (.istore 5, 2) := by decide +kernel
theorem dL_law_373 : decode cL_law 373 = .ok (.aload_n 2, 1) := by decide +kernel
theorem dL_law_374 : decode cL_law 374 = .ok (.aload_n 0, 1) := by decide +kernel
theorem dL_law_375 : decode cL_law 375 = .ok (.iload 4, 2) := by decide +kernel
theorem dL_law_377 : decode cL_law 377 = .ok (.iconst 1, 1) := by decide +kernel
theorem dL_law_378 : decode cL_law 378 = .ok (.iadd, 1) := by decide +kernel
theorem dL_law_379 : decode cL_law 379 = .ok (.iaload, 1) := by decide +kernel
theorem dL_law_380 : decode cL_law 380 = .ok (.aload_n 0, 1) := by decide +kernel
theorem dL_law_381 : decode cL_law 381 = .ok (.iload 4, 2) := by decide +kernel
theorem dL_law_383 : decode cL_law 383 = .ok (.iconst 2, 1) := by decide +kernel
theorem dL_law_384 : decode cL_law 384 = .ok (.iadd, 1) := by decide +kernel
theorem dL_law_385 : decode cL_law 385 = .ok (.iaload, 1) := by decide +kernel
theorem tw_1871 : (Jvm.Cond.methodLink "MarshBellsLaw" (129 : Nat) ({ cls := "MarshBellsModel", name := "lesson", desc := "(II)I" } : Jvm.MethodName)) ∈ lw_tbl := tk_8 (List.mem_of_getElem? (i := 191) rfl)
theorem tw_1874 : (Jvm.Cond.code ({ cls := "MarshBellsModel", name := "lesson", desc := "(II)I" } : Jvm.MethodName) prog_14_method_54_code (3 : Nat) (Option.some Jvm.ClassFile.FieldType.int)) ∈ lw_tbl := tk_8 (List.mem_of_getElem? (i := 194) rfl)
theorem tw_1872 : (Jvm.Cond.instanceMethod ({ cls := "MarshBellsModel", name := "lesson", desc := "(II)I" } : Jvm.MethodName)) ∈ lw_tbl := tk_8 (List.mem_of_getElem? (i := 192) rfl)
theorem tw_1873 : (Jvm.Cond.selects "MarshBellsModel" ({ cls := "MarshBellsModel", name := "lesson", desc := "(II)I" } : Jvm.MethodName) ({ cls := "MarshBellsModel", name := "lesson", desc := "(II)I" } : Jvm.MethodName)) ∈ lw_tbl := tk_8 (List.mem_of_getElem? (i := 193) rfl)
theorem li_L_129 : kLV RL 129 RX12 yX12_lesson cX12_lesson 3 (some .int) 2 := ⟨tw_1871, tw_1872, tw_1873, tw_1874, tw_13, by decide +kernel⟩
theorem dL_law_386 : decode cL_law 386 = .ok (.invokevirtual 129, 3) := by decide +kernel
theorem dL_law_389 : decode cL_law 389 = .ok (.istore 6, 2) := by decide +kernel
theorem dL_law_391 : decode cL_law 391 = .ok (.goto 1120, 3) := by decide +kernel
theorem dL_law_394 : decode cL_law 394 = .ok (.aload_n 1, 1) := by decide +kernel
theorem dL_law_395 : decode cL_law 395 = .ok (.aload_n 0, 1) := by decide +kernel
theorem dL_law_396 : decode cL_law 396 = .ok (.iload 4, 2) := by decide +kernel
theorem dL_law_398 : decode cL_law 398 = .ok (.iconst 1, 1) := by decide +kernel
theorem dL_law_399 : decode cL_law 399 = .ok (.iadd, 1) := by decide +kernel
theorem dL_law_400 : decode cL_law 400 = .ok (.iaload, 1) := by decide +kernel
theorem dL_law_401 : decode cL_law 401 = .ok (.aload_n 0, 1) := by decide +kernel
theorem dL_law_402 : decode cL_law 402 = .ok (.iload 4, 2) := by decide +kernel
theorem dL_law_404 : decode cL_law 404 = .ok (.iconst 2, 1) := by decide +kernel
theorem dL_law_405 : decode cL_law 405 = .ok (.iadd, 1) := by decide +kernel
theorem dL_law_406 : decode cL_law 406 = .ok (.iaload, 1) := by decide +kernel
theorem dL_law_407 : decode cL_law 407 = .ok (.aload_n 3, 1) := by decide +kernel
theorem tw_1043 : (Jvm.Cond.methodLink "MarshBellsLaw" (130 : Nat) ({ cls := "MarshBellsLaw", name := "day", desc := "(LMarshBells;II[J)I" } : Jvm.MethodName)) ∈ lw_tbl := tk_5 (List.mem_of_getElem? (i := 83) rfl)
theorem tw_1045 : (Jvm.Cond.codeWith ({ cls := "MarshBellsLaw", name := "day", desc := "(LMarshBells;II[J)I" } : Jvm.MethodName) method_6_code (5 : Nat) (Option.some Jvm.ClassFile.FieldType.int) [((0 : Nat), (10 : Nat), (13 : Nat), (18 : Nat))]) ∈ lw_tbl := tk_5 (List.mem_of_getElem? (i := 85) rfl)
theorem tw_1044 : (Jvm.Cond.static ({ cls := "MarshBellsLaw", name := "day", desc := "(LMarshBells;II[J)I" } : Jvm.MethodName)) ∈ lw_tbl := tk_5 (List.mem_of_getElem? (i := 84) rfl)
theorem li_L_130 : kLH RL 130 yL_day cL_day 5 (some .int) [(0, 10, 13, 18)] 4 := ⟨tw_1043, tw_1044, tw_1045, tw_0, by decide +kernel⟩
theorem dL_law_408 : decode cL_law 408 = .ok (.invokestatic 130, 3) := by decide +kernel
theorem dL_law_411 : decode cL_law 411 = .ok (.istore 5, 2) := by decide +kernel
theorem dL_law_413 : decode cL_law 413 = .ok (.aload_n 2, 1) := by decide +kernel
theorem dL_law_414 : decode cL_law 414 = .ok (.aload_n 0, 1) := by decide +kernel
theorem dL_law_415 : decode cL_law 415 = .ok (.iload 4, 2) := by decide +kernel
theorem dL_law_417 : decode cL_law 417 = .ok (.iconst 1, 1) := by decide +kernel
theorem dL_law_418 : decode cL_law 418 = .ok (.iadd, 1) := by decide +kernel
theorem dL_law_419 : decode cL_law 419 = .ok (.iaload, 1) := by decide +kernel
theorem dL_law_420 : decode cL_law 420 = .ok (.aload_n 0, 1) := by decide +kernel
theorem dL_law_421 : decode cL_law 421 = .ok (.iload 4, 2) := by decide +kernel
theorem dL_law_423 : decode cL_law 423 = .ok (.iconst 2, 1) := by decide +kernel
theorem dL_law_424 : decode cL_law 424 = .ok (.iadd, 1) := by decide +kernel
theorem dL_law_425 : decode cL_law 425 = .ok (.iaload, 1) := by decide +kernel
theorem tw_1887 : (Jvm.Cond.methodLink "MarshBellsLaw" (132 : Nat) ({ cls := "MarshBellsModel", name := "day", desc := "(II)I" } : Jvm.MethodName)) ∈ lw_tbl := tk_8 (List.mem_of_getElem? (i := 207) rfl)
theorem tw_1890 : (Jvm.Cond.code ({ cls := "MarshBellsModel", name := "day", desc := "(II)I" } : Jvm.MethodName) prog_14_method_55_code (3 : Nat) (Option.some Jvm.ClassFile.FieldType.int)) ∈ lw_tbl := tk_8 (List.mem_of_getElem? (i := 210) rfl)
theorem tw_1888 : (Jvm.Cond.instanceMethod ({ cls := "MarshBellsModel", name := "day", desc := "(II)I" } : Jvm.MethodName)) ∈ lw_tbl := tk_8 (List.mem_of_getElem? (i := 208) rfl)
theorem tw_1889 : (Jvm.Cond.selects "MarshBellsModel" ({ cls := "MarshBellsModel", name := "day", desc := "(II)I" } : Jvm.MethodName) ({ cls := "MarshBellsModel", name := "day", desc := "(II)I" } : Jvm.MethodName)) ∈ lw_tbl := tk_8 (List.mem_of_getElem? (i := 209) rfl)
theorem li_L_132 : kLV RL 132 RX12 yX12_day cX12_day 3 (some .int) 2 := ⟨tw_1887, tw_1888, tw_1889, tw_1890, tw_13, by decide +kernel⟩
theorem dL_law_426 : decode cL_law 426 = .ok (.invokevirtual 132, 3) := by decide +kernel
theorem dL_law_429 : decode cL_law 429 = .ok (.istore 6, 2) := by decide +kernel
theorem dL_law_431 : decode cL_law 431 = .ok (.goto 1080, 3) := by decide +kernel
theorem dL_law_434 : decode cL_law 434 = .ok (.aload_n 1, 1) := by decide +kernel
theorem dL_law_435 : decode cL_law 435 = .ok (.aload_n 0, 1) := by decide +kernel
theorem dL_law_436 : decode cL_law 436 = .ok (.iload 4, 2) := by decide +kernel
theorem dL_law_438 : decode cL_law 438 = .ok (.iconst 1, 1) := by decide +kernel
theorem dL_law_439 : decode cL_law 439 = .ok (.iadd, 1) := by decide +kernel
theorem dL_law_440 : decode cL_law 440 = .ok (.iaload, 1) := by decide +kernel
theorem dL_law_441 : decode cL_law 441 = .ok (.aload_n 0, 1) := by decide +kernel
theorem dL_law_442 : decode cL_law 442 = .ok (.iload 4, 2) := by decide +kernel
theorem dL_law_444 : decode cL_law 444 = .ok (.iconst 2, 1) := by decide +kernel
theorem dL_law_445 : decode cL_law 445 = .ok (.iadd, 1) := by decide +kernel
theorem dL_law_446 : decode cL_law 446 = .ok (.iaload, 1) := by decide +kernel
theorem dL_law_447 : decode cL_law 447 = .ok (.aload_n 3, 1) := by decide +kernel
theorem tw_1051 : (Jvm.Cond.methodLink "MarshBellsLaw" (133 : Nat) ({ cls := "MarshBellsLaw", name := "chain", desc := "(LMarshBells;II[J)I" } : Jvm.MethodName)) ∈ lw_tbl := tk_5 (List.mem_of_getElem? (i := 91) rfl)
theorem tw_1053 : (Jvm.Cond.codeWith ({ cls := "MarshBellsLaw", name := "chain", desc := "(LMarshBells;II[J)I" } : Jvm.MethodName) method_7_code (5 : Nat) (Option.some Jvm.ClassFile.FieldType.int) [((0 : Nat), (10 : Nat), (13 : Nat), (18 : Nat))]) ∈ lw_tbl := tk_5 (List.mem_of_getElem? (i := 93) rfl)
theorem tw_1052 : (Jvm.Cond.static ({ cls := "MarshBellsLaw", name := "chain", desc := "(LMarshBells;II[J)I" } : Jvm.MethodName)) ∈ lw_tbl := tk_5 (List.mem_of_getElem? (i := 92) rfl)
theorem li_L_133 : kLH RL 133 yL_chain cL_chain 5 (some .int) [(0, 10, 13, 18)] 4 := ⟨tw_1051, tw_1052, tw_1053, tw_0, by decide +kernel⟩
theorem dL_law_448 : decode cL_law 448 = .ok (.invokestatic 133, 3) := by decide +kernel
theorem dL_law_451 : decode cL_law 451 = .ok (.istore 5, 2) := by decide +kernel
theorem dL_law_453 : decode cL_law 453 = .ok (.aload_n 2, 1) := by decide +kernel
theorem dL_law_454 : decode cL_law 454 = .ok (.aload_n 0, 1) := by decide +kernel
theorem dL_law_455 : decode cL_law 455 = .ok (.iload 4, 2) := by decide +kernel
theorem dL_law_457 : decode cL_law 457 = .ok (.iconst 1, 1) := by decide +kernel
theorem dL_law_458 : decode cL_law 458 = .ok (.iadd, 1) := by decide +kernel
theorem dL_law_459 : decode cL_law 459 = .ok (.iaload, 1) := by decide +kernel
theorem dL_law_460 : decode cL_law 460 = .ok (.aload_n 0, 1) := by decide +kernel
theorem dL_law_461 : decode cL_law 461 = .ok (.iload 4, 2) := by decide +kernel
theorem dL_law_463 : decode cL_law 463 = .ok (.iconst 2, 1) := by decide +kernel
theorem dL_law_464 : decode cL_law 464 = .ok (.iadd, 1) := by decide +kernel
theorem dL_law_465 : decode cL_law 465 = .ok (.iaload, 1) := by decide +kernel
theorem tw_1891 : (Jvm.Cond.methodLink "MarshBellsLaw" (135 : Nat) ({ cls := "MarshBellsModel", name := "chain", desc := "(II)I" } : Jvm.MethodName)) ∈ lw_tbl := tk_8 (List.mem_of_getElem? (i := 211) rfl)
theorem tw_1894 : (Jvm.Cond.code ({ cls := "MarshBellsModel", name := "chain", desc := "(II)I" } : Jvm.MethodName) prog_14_method_56_code (5 : Nat) (Option.some Jvm.ClassFile.FieldType.int)) ∈ lw_tbl := tk_8 (List.mem_of_getElem? (i := 214) rfl)
theorem tw_1892 : (Jvm.Cond.instanceMethod ({ cls := "MarshBellsModel", name := "chain", desc := "(II)I" } : Jvm.MethodName)) ∈ lw_tbl := tk_8 (List.mem_of_getElem? (i := 212) rfl)
theorem tw_1893 : (Jvm.Cond.selects "MarshBellsModel" ({ cls := "MarshBellsModel", name := "chain", desc := "(II)I" } : Jvm.MethodName) ({ cls := "MarshBellsModel", name := "chain", desc := "(II)I" } : Jvm.MethodName)) ∈ lw_tbl := tk_8 (List.mem_of_getElem? (i := 213) rfl)
theorem li_L_135 : kLV RL 135 RX12 yX12_chain cX12_chain 5 (some .int) 2 := ⟨tw_1891, tw_1892, tw_1893, tw_1894, tw_13, by decide +kernel⟩
theorem dL_law_466 : decode cL_law 466 = .ok (.invokevirtual 135, 3) := by decide +kernel
theorem dL_law_469 : decode cL_law 469 = .ok (.istore 6, 2) := by decide +kernel
theorem dL_law_471 : decode cL_law 471 = .ok (.goto 1040, 3) := by decide +kernel
theorem dL_law_474 : decode cL_law 474 = .ok (.aload_n 1, 1) := by decide +kernel
theorem dL_law_475 : decode cL_law 475 = .ok (.aload_n 0, 1) := by decide +kernel
theorem dL_law_476 : decode cL_law 476 = .ok (.iload 4, 2) := by decide +kernel
theorem dL_law_478 : decode cL_law 478 = .ok (.iconst 1, 1) := by decide +kernel
theorem dL_law_479 : decode cL_law 479 = .ok (.iadd, 1) := by decide +kernel
theorem dL_law_480 : decode cL_law 480 = .ok (.iaload, 1) := by decide +kernel
theorem dL_law_481 : decode cL_law 481 = .ok (.aload_n 0, 1) := by decide +kernel
theorem dL_law_482 : decode cL_law 482 = .ok (.iload 4, 2) := by decide +kernel
theorem dL_law_484 : decode cL_law 484 = .ok (.iconst 2, 1) := by decide +kernel
theorem dL_law_485 : decode cL_law 485 = .ok (.iadd, 1) := by decide +kernel
theorem dL_law_486 : decode cL_law 486 = .ok (.iaload, 1) := by decide +kernel
theorem dL_law_487 : decode cL_law 487 = .ok (.aload_n 0, 1) := by decide +kernel
theorem dL_law_488 : decode cL_law 488 = .ok (.iload 4, 2) := by decide +kernel
theorem dL_law_490 : decode cL_law 490 = .ok (.iconst 3, 1) := by decide +kernel
theorem dL_law_491 : decode cL_law 491 = .ok (.iadd, 1) := by decide +kernel
theorem dL_law_492 : decode cL_law 492 = .ok (.iaload, 1) := by decide +kernel
theorem dL_law_493 : decode cL_law 493 = .ok (.aload_n 3, 1) := by decide +kernel
theorem tw_1058 : (Jvm.Cond.methodLink "MarshBellsLaw" (136 : Nat) ({ cls := "MarshBellsLaw", name := "become", desc := "(LMarshBells;III[J)I" } : Jvm.MethodName)) ∈ lw_tbl := tk_5 (List.mem_of_getElem? (i := 98) rfl)
theorem tw_1060 : (Jvm.Cond.codeWith ({ cls := "MarshBellsLaw", name := "become", desc := "(LMarshBells;III[J)I" } : Jvm.MethodName) method_8_code (6 : Nat) (Option.some Jvm.ClassFile.FieldType.int) [((0 : Nat), (12 : Nat), (15 : Nat), (18 : Nat))]) ∈ lw_tbl := tk_5 (List.mem_of_getElem? (i := 100) rfl)
theorem tw_1059 : (Jvm.Cond.static ({ cls := "MarshBellsLaw", name := "become", desc := "(LMarshBells;III[J)I" } : Jvm.MethodName)) ∈ lw_tbl := tk_5 (List.mem_of_getElem? (i := 99) rfl)
theorem li_L_136 : kLH RL 136 yL_become cL_become 6 (some .int) [(0, 12, 15, 18)] 5 := ⟨tw_1058, tw_1059, tw_1060, tw_0, by decide +kernel⟩
theorem dL_law_494 : decode cL_law 494 = .ok (.invokestatic 136, 3) := by decide +kernel
theorem dL_law_497 : decode cL_law 497 = .ok (.istore 5, 2) := by decide +kernel
theorem dL_law_499 : decode cL_law 499 = .ok (.aload_n 2, 1) := by decide +kernel
theorem dL_law_500 : decode cL_law 500 = .ok (.aload_n 0, 1) := by decide +kernel
theorem dL_law_501 : decode cL_law 501 = .ok (.iload 4, 2) := by decide +kernel
theorem dL_law_503 : decode cL_law 503 = .ok (.iconst 1, 1) := by decide +kernel
theorem dL_law_504 : decode cL_law 504 = .ok (.iadd, 1) := by decide +kernel
theorem dL_law_505 : decode cL_law 505 = .ok (.iaload, 1) := by decide +kernel
theorem dL_law_506 : decode cL_law 506 = .ok (.aload_n 0, 1) := by decide +kernel
theorem dL_law_507 : decode cL_law 507 = .ok (.iload 4, 2) := by decide +kernel
theorem dL_law_509 : decode cL_law 509 = .ok (.iconst 2, 1) := by decide +kernel
theorem dL_law_510 : decode cL_law 510 = .ok (.iadd, 1) := by decide +kernel
theorem dL_law_511 : decode cL_law 511 = .ok (.iaload, 1) := by decide +kernel
theorem dL_law_512 : decode cL_law 512 = .ok (.aload_n 0, 1) := by decide +kernel
theorem dL_law_513 : decode cL_law 513 = .ok (.iload 4, 2) := by decide +kernel
theorem dL_law_515 : decode cL_law 515 = .ok (.iconst 3, 1) := by decide +kernel
theorem dL_law_516 : decode cL_law 516 = .ok (.iadd, 1) := by decide +kernel
theorem dL_law_517 : decode cL_law 517 = .ok (.iaload, 1) := by decide +kernel
theorem tw_1895 : (Jvm.Cond.methodLink "MarshBellsLaw" (139 : Nat) ({ cls := "MarshBellsModel", name := "become", desc := "(III)I" } : Jvm.MethodName)) ∈ lw_tbl := tk_8 (List.mem_of_getElem? (i := 215) rfl)
theorem tw_1898 : (Jvm.Cond.code ({ cls := "MarshBellsModel", name := "become", desc := "(III)I" } : Jvm.MethodName) prog_14_method_59_code (6 : Nat) (Option.some Jvm.ClassFile.FieldType.int)) ∈ lw_tbl := tk_8 (List.mem_of_getElem? (i := 218) rfl)
theorem tw_1896 : (Jvm.Cond.instanceMethod ({ cls := "MarshBellsModel", name := "become", desc := "(III)I" } : Jvm.MethodName)) ∈ lw_tbl := tk_8 (List.mem_of_getElem? (i := 216) rfl)
theorem tw_1897 : (Jvm.Cond.selects "MarshBellsModel" ({ cls := "MarshBellsModel", name := "become", desc := "(III)I" } : Jvm.MethodName) ({ cls := "MarshBellsModel", name := "become", desc := "(III)I" } : Jvm.MethodName)) ∈ lw_tbl := tk_8 (List.mem_of_getElem? (i := 217) rfl)
theorem li_L_139 : kLV RL 139 RX12 yX12_become cX12_become 6 (some .int) 3 := ⟨tw_1895, tw_1896, tw_1897, tw_1898, tw_13, by decide +kernel⟩
theorem dL_law_518 : decode cL_law 518 = .ok (.invokevirtual 139, 3) := by decide +kernel
theorem dL_law_521 : decode cL_law 521 = .ok (.istore 6, 2) := by decide +kernel
theorem dL_law_523 : decode cL_law 523 = .ok (.goto 988, 3) := by decide +kernel
theorem dL_law_526 : decode cL_law 526 = .ok (.aload_n 1, 1) := by decide +kernel
theorem dL_law_527 : decode cL_law 527 = .ok (.aload_n 0, 1) := by decide +kernel
theorem dL_law_528 : decode cL_law 528 = .ok (.iload 4, 2) := by decide +kernel
theorem dL_law_530 : decode cL_law 530 = .ok (.iconst 1, 1) := by decide +kernel
theorem dL_law_531 : decode cL_law 531 = .ok (.iadd, 1) := by decide +kernel
theorem dL_law_532 : decode cL_law 532 = .ok (.iaload, 1) := by decide +kernel
theorem tw_549 : (Jvm.Cond.methodLink "MarshBellsLaw" (140 : Nat) ({ cls := "MarshBells", name := "obey", desc := "(I)Z" } : Jvm.MethodName)) ∈ lw_tbl := tk_3 (List.mem_of_getElem? (i := 69) rfl)
theorem tw_552 : (Jvm.Cond.code ({ cls := "MarshBells", name := "obey", desc := "(I)Z" } : Jvm.MethodName) prog_1_method_10_code (2 : Nat) (Option.some Jvm.ClassFile.FieldType.boolean)) ∈ lw_tbl := tk_3 (List.mem_of_getElem? (i := 72) rfl)
theorem tw_550 : (Jvm.Cond.instanceMethod ({ cls := "MarshBells", name := "obey", desc := "(I)Z" } : Jvm.MethodName)) ∈ lw_tbl := tk_3 (List.mem_of_getElem? (i := 70) rfl)
theorem tw_551 : (Jvm.Cond.selects "MarshBells" ({ cls := "MarshBells", name := "obey", desc := "(I)Z" } : Jvm.MethodName) ({ cls := "MarshBells", name := "obey", desc := "(I)Z" } : Jvm.MethodName)) ∈ lw_tbl := tk_3 (List.mem_of_getElem? (i := 71) rfl)
theorem li_L_140 : kLV RL 140 RX11 yX11_obey cX11_obey 2 (some .boolean) 1 := ⟨tw_549, tw_550, tw_551, tw_552, tw_1, by decide +kernel⟩
theorem dL_law_533 : decode cL_law 533 = .ok (.invokevirtual 140, 3) := by decide +kernel
theorem dL_law_536 : decode cL_law 536 = .ok (.pop, 1) := by decide +kernel
theorem dL_law_537 : decode cL_law 537 = .ok (.aload_n 2, 1) := by decide +kernel
theorem dL_law_538 : decode cL_law 538 = .ok (.aload_n 0, 1) := by decide +kernel
theorem dL_law_539 : decode cL_law 539 = .ok (.iload 4, 2) := by decide +kernel
theorem dL_law_541 : decode cL_law 541 = .ok (.iconst 1, 1) := by decide +kernel
theorem dL_law_542 : decode cL_law 542 = .ok (.iadd, 1) := by decide +kernel
theorem dL_law_543 : decode cL_law 543 = .ok (.iaload, 1) := by decide +kernel
theorem tw_1907 : (Jvm.Cond.methodLink "MarshBellsLaw" (144 : Nat) ({ cls := "MarshBellsModel", name := "obey", desc := "(I)Z" } : Jvm.MethodName)) ∈ lw_tbl := tk_8 (List.mem_of_getElem? (i := 227) rfl)
theorem tw_1910 : (Jvm.Cond.code ({ cls := "MarshBellsModel", name := "obey", desc := "(I)Z" } : Jvm.MethodName) prog_14_method_60_code (2 : Nat) (Option.some Jvm.ClassFile.FieldType.boolean)) ∈ lw_tbl := tk_8 (List.mem_of_getElem? (i := 230) rfl)
theorem tw_1908 : (Jvm.Cond.instanceMethod ({ cls := "MarshBellsModel", name := "obey", desc := "(I)Z" } : Jvm.MethodName)) ∈ lw_tbl := tk_8 (List.mem_of_getElem? (i := 228) rfl)
theorem tw_1909 : (Jvm.Cond.selects "MarshBellsModel" ({ cls := "MarshBellsModel", name := "obey", desc := "(I)Z" } : Jvm.MethodName) ({ cls := "MarshBellsModel", name := "obey", desc := "(I)Z" } : Jvm.MethodName)) ∈ lw_tbl := tk_8 (List.mem_of_getElem? (i := 229) rfl)
theorem li_L_144 : kLV RL 144 RX12 yX12_obey cX12_obey 2 (some .boolean) 1 := ⟨tw_1907, tw_1908, tw_1909, tw_1910, tw_13, by decide +kernel⟩
theorem dL_law_544 : decode cL_law 544 = .ok (.invokevirtual 144, 3) := by decide +kernel
theorem dL_law_547 : decode cL_law 547 = .ok (.pop, 1) := by decide +kernel
theorem dL_law_548 : decode cL_law 548 = .ok (.goto 963, 3) := by decide +kernel
theorem dL_law_551 : decode cL_law 551 = .ok (.aload_n 1, 1) := by decide +kernel
theorem tw_568 : (Jvm.Cond.methodLink "MarshBellsLaw" (145 : Nat) ({ cls := "MarshBells", name := "undo", desc := "()I" } : Jvm.MethodName)) ∈ lw_tbl := tk_3 (List.mem_of_getElem? (i := 88) rfl)
theorem tw_571 : (Jvm.Cond.code ({ cls := "MarshBells", name := "undo", desc := "()I" } : Jvm.MethodName) prog_1_method_11_code (1 : Nat) (Option.some Jvm.ClassFile.FieldType.int)) ∈ lw_tbl := tk_3 (List.mem_of_getElem? (i := 91) rfl)
theorem tw_569 : (Jvm.Cond.instanceMethod ({ cls := "MarshBells", name := "undo", desc := "()I" } : Jvm.MethodName)) ∈ lw_tbl := tk_3 (List.mem_of_getElem? (i := 89) rfl)
theorem tw_570 : (Jvm.Cond.selects "MarshBells" ({ cls := "MarshBells", name := "undo", desc := "()I" } : Jvm.MethodName) ({ cls := "MarshBells", name := "undo", desc := "()I" } : Jvm.MethodName)) ∈ lw_tbl := tk_3 (List.mem_of_getElem? (i := 90) rfl)
theorem li_L_145 : kLV RL 145 RX11 yX11_undo cX11_undo 1 (some .int) 0 := ⟨tw_568, tw_569, tw_570, tw_571, tw_1, by decide +kernel⟩
theorem dL_law_552 : decode cL_law 552 = .ok (.invokevirtual 145, 3) := by decide +kernel
theorem dL_law_555 : decode cL_law 555 = .ok (.pop, 1) := by decide +kernel
theorem dL_law_556 : decode cL_law 556 = .ok (.aload_n 2, 1) := by decide +kernel
theorem tw_1911 : (Jvm.Cond.methodLink "MarshBellsLaw" (148 : Nat) ({ cls := "MarshBellsModel", name := "undo", desc := "()I" } : Jvm.MethodName)) ∈ lw_tbl := tk_8 (List.mem_of_getElem? (i := 231) rfl)
theorem tw_1914 : (Jvm.Cond.code ({ cls := "MarshBellsModel", name := "undo", desc := "()I" } : Jvm.MethodName) prog_14_method_61_code (1 : Nat) (Option.some Jvm.ClassFile.FieldType.int)) ∈ lw_tbl := tk_8 (List.mem_of_getElem? (i := 234) rfl)
theorem tw_1912 : (Jvm.Cond.instanceMethod ({ cls := "MarshBellsModel", name := "undo", desc := "()I" } : Jvm.MethodName)) ∈ lw_tbl := tk_8 (List.mem_of_getElem? (i := 232) rfl)
theorem tw_1913 : (Jvm.Cond.selects "MarshBellsModel" ({ cls := "MarshBellsModel", name := "undo", desc := "()I" } : Jvm.MethodName) ({ cls := "MarshBellsModel", name := "undo", desc := "()I" } : Jvm.MethodName)) ∈ lw_tbl := tk_8 (List.mem_of_getElem? (i := 233) rfl)
theorem li_L_148 : kLV RL 148 RX12 yX12_undo cX12_undo 1 (some .int) 0 := ⟨tw_1911, tw_1912, tw_1913, tw_1914, tw_13, by decide +kernel⟩
theorem dL_law_557 : decode cL_law 557 = .ok (.invokevirtual 148, 3) := by decide +kernel
theorem dL_law_560 : decode cL_law 560 = .ok (.pop, 1) := by decide +kernel
theorem dL_law_561 : decode cL_law 561 = .ok (.goto 950, 3) := by decide +kernel
theorem dL_law_564 : decode cL_law 564 = .ok (.aload_n 1, 1) := by decide +kernel
theorem dL_law_565 : decode cL_law 565 = .ok (.aload_n 0, 1) := by decide +kernel
theorem dL_law_566 : decode cL_law 566 = .ok (.iload 4, 2) := by decide +kernel
theorem dL_law_568 : decode cL_law 568 = .ok (.iconst 1, 1) := by decide +kernel
theorem dL_law_569 : decode cL_law 569 = .ok (.iadd, 1) := by decide +kernel
theorem dL_law_570 : decode cL_law 570 = .ok (.iaload, 1) := by decide +kernel
theorem dL_law_571 : decode cL_law 571 = .ok (.aload_n 0, 1) := by decide +kernel
theorem dL_law_572 : decode cL_law 572 = .ok (.iload 4, 2) := by decide +kernel
theorem dL_law_574 : decode cL_law 574 = .ok (.iconst 2, 1) := by decide +kernel
theorem dL_law_575 : decode cL_law 575 = .ok (.iadd, 1) := by decide +kernel
theorem dL_law_576 : decode cL_law 576 = .ok (.iaload, 1) := by decide +kernel
theorem dL_law_577 : decode cL_law 577 = .ok (.aload_n 0, 1) := by decide +kernel
theorem dL_law_578 : decode cL_law 578 = .ok (.iload 4, 2) := by decide +kernel
theorem dL_law_580 : decode cL_law 580 = .ok (.iconst 3, 1) := by decide +kernel
theorem dL_law_581 : decode cL_law 581 = .ok (.iadd, 1) := by decide +kernel
theorem dL_law_582 : decode cL_law 582 = .ok (.iaload, 1) := by decide +kernel
theorem dL_law_583 : decode cL_law 583 = .ok (.aload_n 3, 1) := by decide +kernel
theorem tw_1073 : (Jvm.Cond.methodLink "MarshBellsLaw" (149 : Nat) ({ cls := "MarshBellsLaw", name := "far", desc := "(LMarshBells;III[J)I" } : Jvm.MethodName)) ∈ lw_tbl := tk_5 (List.mem_of_getElem? (i := 113) rfl)
theorem tw_1075 : (Jvm.Cond.codeWith ({ cls := "MarshBellsLaw", name := "far", desc := "(LMarshBells;III[J)I" } : Jvm.MethodName) method_9_code (6 : Nat) (Option.some Jvm.ClassFile.FieldType.int) [((0 : Nat), (12 : Nat), (15 : Nat), (18 : Nat)), ((0 : Nat), (12 : Nat), (19 : Nat), (13 : Nat))]) ∈ lw_tbl := tk_5 (List.mem_of_getElem? (i := 115) rfl)
theorem tw_1074 : (Jvm.Cond.static ({ cls := "MarshBellsLaw", name := "far", desc := "(LMarshBells;III[J)I" } : Jvm.MethodName)) ∈ lw_tbl := tk_5 (List.mem_of_getElem? (i := 114) rfl)
theorem li_L_149 : kLH RL 149 yL_far cL_far 6 (some .int) [(0, 12, 15, 18), (0, 12, 19, 13)] 5 := ⟨tw_1073, tw_1074, tw_1075, tw_0, by decide +kernel⟩
theorem dL_law_584 : decode cL_law 584 = .ok (.invokestatic 149, 3) := by decide +kernel
theorem dL_law_587 : decode cL_law 587 = .ok (.istore 5, 2) := by decide +kernel
theorem dL_law_589 : decode cL_law 589 = .ok (.aload_n 2, 1) := by decide +kernel
theorem dL_law_590 : decode cL_law 590 = .ok (.aload_n 0, 1) := by decide +kernel
theorem dL_law_591 : decode cL_law 591 = .ok (.iload 4, 2) := by decide +kernel
theorem dL_law_593 : decode cL_law 593 = .ok (.iconst 1, 1) := by decide +kernel
theorem dL_law_594 : decode cL_law 594 = .ok (.iadd, 1) := by decide +kernel
theorem dL_law_595 : decode cL_law 595 = .ok (.iaload, 1) := by decide +kernel
theorem dL_law_596 : decode cL_law 596 = .ok (.aload_n 0, 1) := by decide +kernel
theorem dL_law_597 : decode cL_law 597 = .ok (.iload 4, 2) := by decide +kernel
theorem dL_law_599 : decode cL_law 599 = .ok (.iconst 2, 1) := by decide +kernel
theorem dL_law_600 : decode cL_law 600 = .ok (.iadd, 1) := by decide +kernel
theorem dL_law_601 : decode cL_law 601 = .ok (.iaload, 1) := by decide +kernel
theorem dL_law_602 : decode cL_law 602 = .ok (.aload_n 0, 1) := by decide +kernel
theorem dL_law_603 : decode cL_law 603 = .ok (.iload 4, 2) := by decide +kernel
theorem dL_law_605 : decode cL_law 605 = .ok (.iconst 3, 1) := by decide +kernel
theorem dL_law_606 : decode cL_law 606 = .ok (.iadd, 1) := by decide +kernel
theorem dL_law_607 : decode cL_law 607 = .ok (.iaload, 1) := by decide +kernel
theorem tw_1915 : (Jvm.Cond.methodLink "MarshBellsLaw" (151 : Nat) ({ cls := "MarshBellsModel", name := "far", desc := "(III)I" } : Jvm.MethodName)) ∈ lw_tbl := tk_8 (List.mem_of_getElem? (i := 235) rfl)
theorem tw_1918 : (Jvm.Cond.code ({ cls := "MarshBellsModel", name := "far", desc := "(III)I" } : Jvm.MethodName) prog_14_method_64_code (5 : Nat) (Option.some Jvm.ClassFile.FieldType.int)) ∈ lw_tbl := tk_8 (List.mem_of_getElem? (i := 238) rfl)
theorem tw_1916 : (Jvm.Cond.instanceMethod ({ cls := "MarshBellsModel", name := "far", desc := "(III)I" } : Jvm.MethodName)) ∈ lw_tbl := tk_8 (List.mem_of_getElem? (i := 236) rfl)
theorem tw_1917 : (Jvm.Cond.selects "MarshBellsModel" ({ cls := "MarshBellsModel", name := "far", desc := "(III)I" } : Jvm.MethodName) ({ cls := "MarshBellsModel", name := "far", desc := "(III)I" } : Jvm.MethodName)) ∈ lw_tbl := tk_8 (List.mem_of_getElem? (i := 237) rfl)
theorem li_L_151 : kLV RL 151 RX12 yX12_far cX12_far 5 (some .int) 3 := ⟨tw_1915, tw_1916, tw_1917, tw_1918, tw_13, by decide +kernel⟩
theorem dL_law_608 : decode cL_law 608 = .ok (.invokevirtual 151, 3) := by decide +kernel
theorem dL_law_611 : decode cL_law 611 = .ok (.istore 6, 2) := by decide +kernel
theorem dL_law_613 : decode cL_law 613 = .ok (.aload_n 2, 1) := by decide +kernel
theorem tw_1688 : (Jvm.Cond.methodLink "MarshBellsLaw" (152 : Nat) ({ cls := "MarshBellsModel", name := "thrown", desc := "()I" } : Jvm.MethodName)) ∈ lw_tbl := tk_8 (List.mem_of_getElem? (i := 8) rfl)
theorem tw_1691 : (Jvm.Cond.code ({ cls := "MarshBellsModel", name := "thrown", desc := "()I" } : Jvm.MethodName) prog_14_method_2_code (1 : Nat) (Option.some Jvm.ClassFile.FieldType.int)) ∈ lw_tbl := tk_8 (List.mem_of_getElem? (i := 11) rfl)
theorem tw_1689 : (Jvm.Cond.instanceMethod ({ cls := "MarshBellsModel", name := "thrown", desc := "()I" } : Jvm.MethodName)) ∈ lw_tbl := tk_8 (List.mem_of_getElem? (i := 9) rfl)
theorem tw_1690 : (Jvm.Cond.selects "MarshBellsModel" ({ cls := "MarshBellsModel", name := "thrown", desc := "()I" } : Jvm.MethodName) ({ cls := "MarshBellsModel", name := "thrown", desc := "()I" } : Jvm.MethodName)) ∈ lw_tbl := tk_8 (List.mem_of_getElem? (i := 10) rfl)
theorem li_L_152 : kLV RL 152 RX12 yX12_thrown cX12_thrown 1 (some .int) 0 := ⟨tw_1688, tw_1689, tw_1690, tw_1691, tw_13, by decide +kernel⟩
theorem dL_law_614 : decode cL_law 614 = .ok (.invokevirtual 152, 3) := by decide +kernel
theorem dL_law_617 : decode cL_law 617 = .ok (.iload 5, 2) := by decide +kernel
theorem dL_law_619 : decode cL_law 619 = .ok (.if_icmp .eq 5, 3) := by decide +kernel
theorem dL_law_624 : decode cL_law 624 = .ok (.iload 5, 2) := by decide +kernel
theorem dL_law_626 : decode cL_law 626 = .ok (.ifCond .ne 15, 3) := by decide +kernel
theorem dL_law_641 : decode cL_law 641 = .ok (.goto 870, 3) := by decide +kernel
theorem dL_law_629 : decode cL_law 629 = .ok (.aload_n 3, 1) := by decide +kernel
theorem dL_law_630 : decode cL_law 630 = .ok (.iconst 0, 1) := by decide +kernel
theorem dL_law_631 : decode cL_law 631 = .ok (.laload, 1) := by decide +kernel
theorem dL_law_632 : decode cL_law 632 = .ok (.iload 6, 2) := by decide +kernel
theorem dL_law_634 : decode cL_law 634 = .ok (.i2l, 1) := by decide +kernel
theorem dL_law_635 : decode cL_law 635 = .ok (.lcmp, 1) := by decide +kernel
theorem dL_law_636 : decode cL_law 636 = .ok (.ifCond .eq 5, 3) := by decide +kernel
theorem dL_law_644 : decode cL_law 644 = .ok (.aload_n 1, 1) := by decide +kernel
theorem dL_law_645 : decode cL_law 645 = .ok (.aload_n 0, 1) := by decide +kernel
theorem dL_law_646 : decode cL_law 646 = .ok (.iload 4, 2) := by decide +kernel
theorem dL_law_648 : decode cL_law 648 = .ok (.iconst 1, 1) := by decide +kernel
theorem dL_law_649 : decode cL_law 649 = .ok (.iadd, 1) := by decide +kernel
theorem dL_law_650 : decode cL_law 650 = .ok (.iaload, 1) := by decide +kernel
theorem dL_law_651 : decode cL_law 651 = .ok (.aload_n 0, 1) := by decide +kernel
theorem dL_law_652 : decode cL_law 652 = .ok (.iload 4, 2) := by decide +kernel
theorem dL_law_654 : decode cL_law 654 = .ok (.iconst 2, 1) := by decide +kernel
theorem dL_law_655 : decode cL_law 655 = .ok (.iadd, 1) := by decide +kernel
theorem dL_law_656 : decode cL_law 656 = .ok (.iaload, 1) := by decide +kernel
theorem dL_law_657 : decode cL_law 657 = .ok (.aload_n 3, 1) := by decide +kernel
theorem tw_1101 : (Jvm.Cond.methodLink "MarshBellsLaw" (155 : Nat) ({ cls := "MarshBellsLaw", name := "reaches", desc := "(LMarshBells;II[J)I" } : Jvm.MethodName)) ∈ lw_tbl := tk_5 (List.mem_of_getElem? (i := 141) rfl)
theorem tw_1103 : (Jvm.Cond.codeWith ({ cls := "MarshBellsLaw", name := "reaches", desc := "(LMarshBells;II[J)I" } : Jvm.MethodName) method_10_code (5 : Nat) (Option.some Jvm.ClassFile.FieldType.int) [((0 : Nat), (10 : Nat), (13 : Nat), (18 : Nat)), ((0 : Nat), (10 : Nat), (17 : Nat), (13 : Nat))]) ∈ lw_tbl := tk_5 (List.mem_of_getElem? (i := 143) rfl)
theorem tw_1102 : (Jvm.Cond.static ({ cls := "MarshBellsLaw", name := "reaches", desc := "(LMarshBells;II[J)I" } : Jvm.MethodName)) ∈ lw_tbl := tk_5 (List.mem_of_getElem? (i := 142) rfl)
theorem li_L_155 : kLH RL 155 yL_reaches cL_reaches 5 (some .int) [(0, 10, 13, 18), (0, 10, 17, 13)] 4 := ⟨tw_1101, tw_1102, tw_1103, tw_0, by decide +kernel⟩
theorem dL_law_658 : decode cL_law 658 = .ok (.invokestatic 155, 3) := by decide +kernel
theorem dL_law_661 : decode cL_law 661 = .ok (.istore 5, 2) := by decide +kernel
theorem dL_law_663 : decode cL_law 663 = .ok (.aload_n 2, 1) := by decide +kernel
theorem dL_law_664 : decode cL_law 664 = .ok (.aload_n 0, 1) := by decide +kernel
theorem dL_law_665 : decode cL_law 665 = .ok (.iload 4, 2) := by decide +kernel
theorem dL_law_667 : decode cL_law 667 = .ok (.iconst 1, 1) := by decide +kernel
theorem dL_law_668 : decode cL_law 668 = .ok (.iadd, 1) := by decide +kernel
theorem dL_law_669 : decode cL_law 669 = .ok (.iaload, 1) := by decide +kernel
theorem dL_law_670 : decode cL_law 670 = .ok (.aload_n 0, 1) := by decide +kernel
theorem dL_law_671 : decode cL_law 671 = .ok (.iload 4, 2) := by decide +kernel
theorem dL_law_673 : decode cL_law 673 = .ok (.iconst 2, 1) := by decide +kernel
theorem dL_law_674 : decode cL_law 674 = .ok (.iadd, 1) := by decide +kernel
theorem dL_law_675 : decode cL_law 675 = .ok (.iaload, 1) := by decide +kernel
theorem tw_1931 : (Jvm.Cond.methodLink "MarshBellsLaw" (157 : Nat) ({ cls := "MarshBellsModel", name := "reaches", desc := "(II)I" } : Jvm.MethodName)) ∈ lw_tbl := tk_9 (List.mem_of_getElem? (i := 11) rfl)
theorem tw_1934 : (Jvm.Cond.code ({ cls := "MarshBellsModel", name := "reaches", desc := "(II)I" } : Jvm.MethodName) prog_14_method_65_code (4 : Nat) (Option.some Jvm.ClassFile.FieldType.int)) ∈ lw_tbl := tk_9 (List.mem_of_getElem? (i := 14) rfl)
theorem tw_1932 : (Jvm.Cond.instanceMethod ({ cls := "MarshBellsModel", name := "reaches", desc := "(II)I" } : Jvm.MethodName)) ∈ lw_tbl := tk_9 (List.mem_of_getElem? (i := 12) rfl)
theorem tw_1933 : (Jvm.Cond.selects "MarshBellsModel" ({ cls := "MarshBellsModel", name := "reaches", desc := "(II)I" } : Jvm.MethodName) ({ cls := "MarshBellsModel", name := "reaches", desc := "(II)I" } : Jvm.MethodName)) ∈ lw_tbl := tk_9 (List.mem_of_getElem? (i := 13) rfl)
theorem li_L_157 : kLV RL 157 RX12 yX12_reaches cX12_reaches 4 (some .int) 2 := ⟨tw_1931, tw_1932, tw_1933, tw_1934, tw_13, by decide +kernel⟩
theorem dL_law_676 : decode cL_law 676 = .ok (.invokevirtual 157, 3) := by decide +kernel
theorem dL_law_679 : decode cL_law 679 = .ok (.istore 6, 2) := by decide +kernel
theorem dL_law_681 : decode cL_law 681 = .ok (.goto 830, 3) := by decide +kernel
theorem dL_law_684 : decode cL_law 684 = .ok (.aload_n 1, 1) := by decide +kernel
theorem dL_law_685 : decode cL_law 685 = .ok (.aload_n 0, 1) := by decide +kernel
theorem dL_law_686 : decode cL_law 686 = .ok (.iload 4, 2) := by decide +kernel
theorem dL_law_688 : decode cL_law 688 = .ok (.iconst 1, 1) := by decide +kernel
theorem dL_law_689 : decode cL_law 689 = .ok (.iadd, 1) := by decide +kernel
theorem dL_law_690 : decode cL_law 690 = .ok (.iaload, 1) := by decide +kernel
theorem dL_law_691 : decode cL_law 691 = .ok (.aload_n 3, 1) := by decide +kernel
theorem tw_1114 : (Jvm.Cond.methodLink "MarshBellsLaw" (158 : Nat) ({ cls := "MarshBellsLaw", name := "slack", desc := "(LMarshBells;I[J)I" } : Jvm.MethodName)) ∈ lw_tbl := tk_5 (List.mem_of_getElem? (i := 154) rfl)
theorem tw_1116 : (Jvm.Cond.codeWith ({ cls := "MarshBellsLaw", name := "slack", desc := "(LMarshBells;I[J)I" } : Jvm.MethodName) method_11_code (4 : Nat) (Option.some Jvm.ClassFile.FieldType.int) [((0 : Nat), (9 : Nat), (12 : Nat), (18 : Nat))]) ∈ lw_tbl := tk_5 (List.mem_of_getElem? (i := 156) rfl)
theorem tw_1115 : (Jvm.Cond.static ({ cls := "MarshBellsLaw", name := "slack", desc := "(LMarshBells;I[J)I" } : Jvm.MethodName)) ∈ lw_tbl := tk_5 (List.mem_of_getElem? (i := 155) rfl)
theorem li_L_158 : kLH RL 158 yL_slack cL_slack 4 (some .int) [(0, 9, 12, 18)] 3 := ⟨tw_1114, tw_1115, tw_1116, tw_0, by decide +kernel⟩
theorem dL_law_692 : decode cL_law 692 = .ok (.invokestatic 158, 3) := by decide +kernel
theorem dL_law_695 : decode cL_law 695 = .ok (.istore 5, 2) := by decide +kernel
theorem dL_law_697 : decode cL_law 697 = .ok (.aload_n 2, 1) := by decide +kernel
theorem dL_law_698 : decode cL_law 698 = .ok (.aload_n 0, 1) := by decide +kernel
theorem dL_law_699 : decode cL_law 699 = .ok (.iload 4, 2) := by decide +kernel
theorem dL_law_701 : decode cL_law 701 = .ok (.iconst 1, 1) := by decide +kernel
theorem dL_law_702 : decode cL_law 702 = .ok (.iadd, 1) := by decide +kernel
theorem dL_law_703 : decode cL_law 703 = .ok (.iaload, 1) := by decide +kernel
theorem tw_1935 : (Jvm.Cond.methodLink "MarshBellsLaw" (160 : Nat) ({ cls := "MarshBellsModel", name := "slack", desc := "(I)I" } : Jvm.MethodName)) ∈ lw_tbl := tk_9 (List.mem_of_getElem? (i := 15) rfl)
theorem tw_1938 : (Jvm.Cond.code ({ cls := "MarshBellsModel", name := "slack", desc := "(I)I" } : Jvm.MethodName) prog_14_method_66_code (3 : Nat) (Option.some Jvm.ClassFile.FieldType.int)) ∈ lw_tbl := tk_9 (List.mem_of_getElem? (i := 18) rfl)
theorem tw_1936 : (Jvm.Cond.instanceMethod ({ cls := "MarshBellsModel", name := "slack", desc := "(I)I" } : Jvm.MethodName)) ∈ lw_tbl := tk_9 (List.mem_of_getElem? (i := 16) rfl)
theorem tw_1937 : (Jvm.Cond.selects "MarshBellsModel" ({ cls := "MarshBellsModel", name := "slack", desc := "(I)I" } : Jvm.MethodName) ({ cls := "MarshBellsModel", name := "slack", desc := "(I)I" } : Jvm.MethodName)) ∈ lw_tbl := tk_9 (List.mem_of_getElem? (i := 17) rfl)
theorem li_L_160 : kLV RL 160 RX12 yX12_slack cX12_slack 3 (some .int) 1 := ⟨tw_1935, tw_1936, tw_1937, tw_1938, tw_13, by decide +kernel⟩
theorem dL_law_704 : decode cL_law 704 = .ok (.invokevirtual 160, 3) := by decide +kernel
theorem dL_law_707 : decode cL_law 707 = .ok (.istore 6, 2) := by decide +kernel
theorem dL_law_709 : decode cL_law 709 = .ok (.goto 802, 3) := by decide +kernel
theorem dL_law_712 : decode cL_law 712 = .ok (.aload_n 1, 1) := by decide +kernel
theorem dL_law_713 : decode cL_law 713 = .ok (.aload_n 0, 1) := by decide +kernel
theorem dL_law_714 : decode cL_law 714 = .ok (.iload 4, 2) := by decide +kernel
theorem dL_law_716 : decode cL_law 716 = .ok (.iconst 1, 1) := by decide +kernel
theorem dL_law_717 : decode cL_law 717 = .ok (.iadd, 1) := by decide +kernel
theorem dL_law_718 : decode cL_law 718 = .ok (.iaload, 1) := by decide +kernel
theorem dL_law_719 : decode cL_law 719 = .ok (.aload_n 0, 1) := by decide +kernel
theorem dL_law_720 : decode cL_law 720 = .ok (.iload 4, 2) := by decide +kernel
theorem dL_law_722 : decode cL_law 722 = .ok (.iconst 2, 1) := by decide +kernel
theorem dL_law_723 : decode cL_law 723 = .ok (.iadd, 1) := by decide +kernel
theorem dL_law_724 : decode cL_law 724 = .ok (.iaload, 1) := by decide +kernel
theorem dL_law_725 : decode cL_law 725 = .ok (.aload_n 0, 1) := by decide +kernel
theorem dL_law_726 : decode cL_law 726 = .ok (.iload 4, 2) := by decide +kernel
theorem dL_law_728 : decode cL_law 728 = .ok (.iconst 3, 1) := by decide +kernel
theorem dL_law_729 : decode cL_law 729 = .ok (.iadd, 1) := by decide +kernel
theorem dL_law_730 : decode cL_law 730 = .ok (.iaload, 1) := by decide +kernel
theorem dL_law_731 : decode cL_law 731 = .ok (.aload_n 3, 1) := by decide +kernel
theorem tw_1126 : (Jvm.Cond.methodLink "MarshBellsLaw" (161 : Nat) ({ cls := "MarshBellsLaw", name := "gaps", desc := "(LMarshBells;III[J)I" } : Jvm.MethodName)) ∈ lw_tbl := tk_5 (List.mem_of_getElem? (i := 166) rfl)
theorem tw_1128 : (Jvm.Cond.codeWith ({ cls := "MarshBellsLaw", name := "gaps", desc := "(LMarshBells;III[J)I" } : Jvm.MethodName) method_12_code (6 : Nat) (Option.some Jvm.ClassFile.FieldType.int) [((0 : Nat), (12 : Nat), (15 : Nat), (18 : Nat)), ((0 : Nat), (12 : Nat), (19 : Nat), (13 : Nat))]) ∈ lw_tbl := tk_5 (List.mem_of_getElem? (i := 168) rfl)
theorem tw_1127 : (Jvm.Cond.static ({ cls := "MarshBellsLaw", name := "gaps", desc := "(LMarshBells;III[J)I" } : Jvm.MethodName)) ∈ lw_tbl := tk_5 (List.mem_of_getElem? (i := 167) rfl)
theorem li_L_161 : kLH RL 161 yL_gaps cL_gaps 6 (some .int) [(0, 12, 15, 18), (0, 12, 19, 13)] 5 := ⟨tw_1126, tw_1127, tw_1128, tw_0, by decide +kernel⟩
theorem dL_law_732 : decode cL_law 732 = .ok (.invokestatic 161, 3) := by decide +kernel
theorem dL_law_735 : decode cL_law 735 = .ok (.istore 5, 2) := by decide +kernel
theorem dL_law_737 : decode cL_law 737 = .ok (.aload_n 2, 1) := by decide +kernel
theorem dL_law_738 : decode cL_law 738 = .ok (.aload_n 0, 1) := by decide +kernel
theorem dL_law_739 : decode cL_law 739 = .ok (.iload 4, 2) := by decide +kernel
theorem dL_law_741 : decode cL_law 741 = .ok (.iconst 1, 1) := by decide +kernel
theorem dL_law_742 : decode cL_law 742 = .ok (.iadd, 1) := by decide +kernel
theorem dL_law_743 : decode cL_law 743 = .ok (.iaload, 1) := by decide +kernel
theorem dL_law_744 : decode cL_law 744 = .ok (.aload_n 0, 1) := by decide +kernel
theorem dL_law_745 : decode cL_law 745 = .ok (.iload 4, 2) := by decide +kernel
theorem dL_law_747 : decode cL_law 747 = .ok (.iconst 2, 1) := by decide +kernel
theorem dL_law_748 : decode cL_law 748 = .ok (.iadd, 1) := by decide +kernel
theorem dL_law_749 : decode cL_law 749 = .ok (.iaload, 1) := by decide +kernel
theorem dL_law_750 : decode cL_law 750 = .ok (.aload_n 0, 1) := by decide +kernel
theorem dL_law_751 : decode cL_law 751 = .ok (.iload 4, 2) := by decide +kernel
theorem dL_law_753 : decode cL_law 753 = .ok (.iconst 3, 1) := by decide +kernel
theorem dL_law_754 : decode cL_law 754 = .ok (.iadd, 1) := by decide +kernel
theorem dL_law_755 : decode cL_law 755 = .ok (.iaload, 1) := by decide +kernel
theorem tw_1939 : (Jvm.Cond.methodLink "MarshBellsLaw" (163 : Nat) ({ cls := "MarshBellsModel", name := "gaps", desc := "(III)I" } : Jvm.MethodName)) ∈ lw_tbl := tk_9 (List.mem_of_getElem? (i := 19) rfl)
theorem tw_1942 : (Jvm.Cond.code ({ cls := "MarshBellsModel", name := "gaps", desc := "(III)I" } : Jvm.MethodName) prog_14_method_68_code (11 : Nat) (Option.some Jvm.ClassFile.FieldType.int)) ∈ lw_tbl := tk_9 (List.mem_of_getElem? (i := 22) rfl)
theorem tw_1940 : (Jvm.Cond.instanceMethod ({ cls := "MarshBellsModel", name := "gaps", desc := "(III)I" } : Jvm.MethodName)) ∈ lw_tbl := tk_9 (List.mem_of_getElem? (i := 20) rfl)
theorem tw_1941 : (Jvm.Cond.selects "MarshBellsModel" ({ cls := "MarshBellsModel", name := "gaps", desc := "(III)I" } : Jvm.MethodName) ({ cls := "MarshBellsModel", name := "gaps", desc := "(III)I" } : Jvm.MethodName)) ∈ lw_tbl := tk_9 (List.mem_of_getElem? (i := 21) rfl)
theorem li_L_163 : kLV RL 163 RX12 yX12_gaps cX12_gaps 11 (some .int) 3 := ⟨tw_1939, tw_1940, tw_1941, tw_1942, tw_13, by decide +kernel⟩
theorem dL_law_756 : decode cL_law 756 = .ok (.invokevirtual 163, 3) := by decide +kernel
theorem dL_law_759 : decode cL_law 759 = .ok (.istore 6, 2) := by decide +kernel
theorem dL_law_761 : decode cL_law 761 = .ok (.goto 750, 3) := by decide +kernel
theorem dL_law_764 : decode cL_law 764 = .ok (.aload_n 1, 1) := by decide +kernel
theorem dL_law_765 : decode cL_law 765 = .ok (.aload_n 0, 1) := by decide +kernel
theorem dL_law_766 : decode cL_law 766 = .ok (.iload 4, 2) := by decide +kernel
theorem dL_law_768 : decode cL_law 768 = .ok (.iconst 1, 1) := by decide +kernel
theorem dL_law_769 : decode cL_law 769 = .ok (.iadd, 1) := by decide +kernel
theorem dL_law_770 : decode cL_law 770 = .ok (.iaload, 1) := by decide +kernel
theorem dL_law_771 : decode cL_law 771 = .ok (.aload_n 3, 1) := by decide +kernel
theorem tw_1166 : (Jvm.Cond.methodLink "MarshBellsLaw" (164 : Nat) ({ cls := "MarshBellsLaw", name := "gap", desc := "(LMarshBells;I[J)I" } : Jvm.MethodName)) ∈ lw_tbl := tk_5 (List.mem_of_getElem? (i := 206) rfl)
theorem tw_1168 : (Jvm.Cond.codeWith ({ cls := "MarshBellsLaw", name := "gap", desc := "(LMarshBells;I[J)I" } : Jvm.MethodName) method_13_code (4 : Nat) (Option.some Jvm.ClassFile.FieldType.int) [((0 : Nat), (9 : Nat), (12 : Nat), (18 : Nat))]) ∈ lw_tbl := tk_5 (List.mem_of_getElem? (i := 208) rfl)
theorem tw_1167 : (Jvm.Cond.static ({ cls := "MarshBellsLaw", name := "gap", desc := "(LMarshBells;I[J)I" } : Jvm.MethodName)) ∈ lw_tbl := tk_5 (List.mem_of_getElem? (i := 207) rfl)
theorem li_L_164 : kLH RL 164 yL_gap cL_gap 4 (some .int) [(0, 9, 12, 18)] 3 := ⟨tw_1166, tw_1167, tw_1168, tw_0, by decide +kernel⟩
theorem dL_law_772 : decode cL_law 772 = .ok (.invokestatic 164, 3) := by decide +kernel
theorem dL_law_775 : decode cL_law 775 = .ok (.istore 5, 2) := by decide +kernel
theorem dL_law_777 : decode cL_law 777 = .ok (.aload_n 2, 1) := by decide +kernel
theorem dL_law_778 : decode cL_law 778 = .ok (.aload_n 0, 1) := by decide +kernel
theorem dL_law_779 : decode cL_law 779 = .ok (.iload 4, 2) := by decide +kernel
theorem dL_law_781 : decode cL_law 781 = .ok (.iconst 1, 1) := by decide +kernel
theorem dL_law_782 : decode cL_law 782 = .ok (.iadd, 1) := by decide +kernel
theorem dL_law_783 : decode cL_law 783 = .ok (.iaload, 1) := by decide +kernel
theorem tw_1946 : (Jvm.Cond.methodLink "MarshBellsLaw" (166 : Nat) ({ cls := "MarshBellsModel", name := "gap", desc := "(I)I" } : Jvm.MethodName)) ∈ lw_tbl := tk_9 (List.mem_of_getElem? (i := 26) rfl)
theorem tw_1949 : (Jvm.Cond.code ({ cls := "MarshBellsModel", name := "gap", desc := "(I)I" } : Jvm.MethodName) prog_14_method_69_code (2 : Nat) (Option.some Jvm.ClassFile.FieldType.int)) ∈ lw_tbl := tk_9 (List.mem_of_getElem? (i := 29) rfl)
theorem tw_1947 : (Jvm.Cond.instanceMethod ({ cls := "MarshBellsModel", name := "gap", desc := "(I)I" } : Jvm.MethodName)) ∈ lw_tbl := tk_9 (List.mem_of_getElem? (i := 27) rfl)
theorem tw_1948 : (Jvm.Cond.selects "MarshBellsModel" ({ cls := "MarshBellsModel", name := "gap", desc := "(I)I" } : Jvm.MethodName) ({ cls := "MarshBellsModel", name := "gap", desc := "(I)I" } : Jvm.MethodName)) ∈ lw_tbl := tk_9 (List.mem_of_getElem? (i := 28) rfl)
theorem li_L_166 : kLV RL 166 RX12 yX12_gap cX12_gap 2 (some .int) 1 := ⟨tw_1946, tw_1947, tw_1948, tw_1949, tw_13, by decide +kernel⟩
theorem dL_law_784 : decode cL_law 784 = .ok (.invokevirtual 166, 3) := by decide +kernel
theorem dL_law_787 : decode cL_law 787 = .ok (.istore 6, 2) := by decide +kernel
theorem dL_law_789 : decode cL_law 789 = .ok (.goto 722, 3) := by decide +kernel
theorem dL_law_792 : decode cL_law 792 = .ok (.aload_n 1, 1) := by decide +kernel
theorem dL_law_793 : decode cL_law 793 = .ok (.aload_n 0, 1) := by decide +kernel
theorem dL_law_794 : decode cL_law 794 = .ok (.iload 4, 2) := by decide +kernel
theorem dL_law_796 : decode cL_law 796 = .ok (.iconst 1, 1) := by decide +kernel
theorem dL_law_797 : decode cL_law 797 = .ok (.iadd, 1) := by decide +kernel
theorem dL_law_798 : decode cL_law 798 = .ok (.iaload, 1) := by decide +kernel
theorem dL_law_799 : decode cL_law 799 = .ok (.aload_n 0, 1) := by decide +kernel
theorem dL_law_800 : decode cL_law 800 = .ok (.iload 4, 2) := by decide +kernel
theorem dL_law_802 : decode cL_law 802 = .ok (.iconst 2, 1) := by decide +kernel
theorem dL_law_803 : decode cL_law 803 = .ok (.iadd, 1) := by decide +kernel
theorem dL_law_804 : decode cL_law 804 = .ok (.iaload, 1) := by decide +kernel
theorem dL_law_805 : decode cL_law 805 = .ok (.aload_n 0, 1) := by decide +kernel
theorem dL_law_806 : decode cL_law 806 = .ok (.iload 4, 2) := by decide +kernel
theorem dL_law_808 : decode cL_law 808 = .ok (.iconst 3, 1) := by decide +kernel
theorem dL_law_809 : decode cL_law 809 = .ok (.iadd, 1) := by decide +kernel
theorem dL_law_810 : decode cL_law 810 = .ok (.iaload, 1) := by decide +kernel
theorem dL_law_811 : decode cL_law 811 = .ok (.aload_n 3, 1) := by decide +kernel
theorem tw_1173 : (Jvm.Cond.methodLink "MarshBellsLaw" (167 : Nat) ({ cls := "MarshBellsLaw", name := "chance", desc := "(LMarshBells;III[J)I" } : Jvm.MethodName)) ∈ lw_tbl := tk_5 (List.mem_of_getElem? (i := 213) rfl)
theorem tw_1175 : (Jvm.Cond.codeWith ({ cls := "MarshBellsLaw", name := "chance", desc := "(LMarshBells;III[J)I" } : Jvm.MethodName) method_14_code (6 : Nat) (Option.some Jvm.ClassFile.FieldType.int) [((0 : Nat), (11 : Nat), (14 : Nat), (18 : Nat)), ((0 : Nat), (11 : Nat), (18 : Nat), (13 : Nat))]) ∈ lw_tbl := tk_5 (List.mem_of_getElem? (i := 215) rfl)
theorem tw_1174 : (Jvm.Cond.static ({ cls := "MarshBellsLaw", name := "chance", desc := "(LMarshBells;III[J)I" } : Jvm.MethodName)) ∈ lw_tbl := tk_5 (List.mem_of_getElem? (i := 214) rfl)
theorem li_L_167 : kLH RL 167 yL_chance cL_chance 6 (some .int) [(0, 11, 14, 18), (0, 11, 18, 13)] 5 := ⟨tw_1173, tw_1174, tw_1175, tw_0, by decide +kernel⟩
theorem dL_law_812 : decode cL_law 812 = .ok (.invokestatic 167, 3) := by decide +kernel
theorem dL_law_815 : decode cL_law 815 = .ok (.istore 5, 2) := by decide +kernel
theorem dL_law_817 : decode cL_law 817 = .ok (.aload_n 2, 1) := by decide +kernel
theorem dL_law_818 : decode cL_law 818 = .ok (.aload_n 0, 1) := by decide +kernel
theorem dL_law_819 : decode cL_law 819 = .ok (.iload 4, 2) := by decide +kernel
theorem dL_law_821 : decode cL_law 821 = .ok (.iconst 1, 1) := by decide +kernel
theorem dL_law_822 : decode cL_law 822 = .ok (.iadd, 1) := by decide +kernel
theorem dL_law_823 : decode cL_law 823 = .ok (.iaload, 1) := by decide +kernel
theorem dL_law_824 : decode cL_law 824 = .ok (.aload_n 0, 1) := by decide +kernel
theorem dL_law_825 : decode cL_law 825 = .ok (.iload 4, 2) := by decide +kernel
theorem dL_law_827 : decode cL_law 827 = .ok (.iconst 2, 1) := by decide +kernel
theorem dL_law_828 : decode cL_law 828 = .ok (.iadd, 1) := by decide +kernel
theorem dL_law_829 : decode cL_law 829 = .ok (.iaload, 1) := by decide +kernel
theorem dL_law_830 : decode cL_law 830 = .ok (.aload_n 0, 1) := by decide +kernel
theorem dL_law_831 : decode cL_law 831 = .ok (.iload 4, 2) := by decide +kernel
theorem dL_law_833 : decode cL_law 833 = .ok (.iconst 3, 1) := by decide +kernel
theorem dL_law_834 : decode cL_law 834 = .ok (.iadd, 1) := by decide +kernel
theorem dL_law_835 : decode cL_law 835 = .ok (.iaload, 1) := by decide +kernel
theorem tw_1950 : (Jvm.Cond.methodLink "MarshBellsLaw" (169 : Nat) ({ cls := "MarshBellsModel", name := "chance", desc := "(III)J" } : Jvm.MethodName)) ∈ lw_tbl := tk_9 (List.mem_of_getElem? (i := 30) rfl)
theorem tw_1953 : (Jvm.Cond.code ({ cls := "MarshBellsModel", name := "chance", desc := "(III)J" } : Jvm.MethodName) prog_14_method_74_code (4 : Nat) (Option.some Jvm.ClassFile.FieldType.long)) ∈ lw_tbl := tk_9 (List.mem_of_getElem? (i := 33) rfl)
theorem tw_1951 : (Jvm.Cond.instanceMethod ({ cls := "MarshBellsModel", name := "chance", desc := "(III)J" } : Jvm.MethodName)) ∈ lw_tbl := tk_9 (List.mem_of_getElem? (i := 31) rfl)
theorem tw_1952 : (Jvm.Cond.selects "MarshBellsModel" ({ cls := "MarshBellsModel", name := "chance", desc := "(III)J" } : Jvm.MethodName) ({ cls := "MarshBellsModel", name := "chance", desc := "(III)J" } : Jvm.MethodName)) ∈ lw_tbl := tk_9 (List.mem_of_getElem? (i := 32) rfl)
theorem li_L_169 : kLV RL 169 RX12 yX12_chance cX12_chance 4 (some .long) 3 := ⟨tw_1950, tw_1951, tw_1952, tw_1953, tw_13, by decide +kernel⟩
theorem dL_law_836 : decode cL_law 836 = .ok (.invokevirtual 169, 3) := by decide +kernel
theorem dL_law_839 : decode cL_law 839 = .ok (.lstore 6, 2) := by decide +kernel
theorem dL_law_841 : decode cL_law 841 = .ok (.goto 670, 3) := by decide +kernel
theorem dL_law_844 : decode cL_law 844 = .ok (.aload_n 1, 1) := by decide +kernel
theorem dL_law_845 : decode cL_law 845 = .ok (.aload_n 0, 1) := by decide +kernel
theorem dL_law_846 : decode cL_law 846 = .ok (.iload 4, 2) := by decide +kernel
theorem dL_law_848 : decode cL_law 848 = .ok (.iconst 1, 1) := by decide +kernel
theorem dL_law_849 : decode cL_law 849 = .ok (.iadd, 1) := by decide +kernel
theorem dL_law_850 : decode cL_law 850 = .ok (.iaload, 1) := by decide +kernel
theorem dL_law_851 : decode cL_law 851 = .ok (.aload_n 0, 1) := by decide +kernel
theorem dL_law_852 : decode cL_law 852 = .ok (.iload 4, 2) := by decide +kernel
theorem dL_law_854 : decode cL_law 854 = .ok (.iconst 2, 1) := by decide +kernel
theorem dL_law_855 : decode cL_law 855 = .ok (.iadd, 1) := by decide +kernel
theorem dL_law_856 : decode cL_law 856 = .ok (.iaload, 1) := by decide +kernel
theorem dL_law_857 : decode cL_law 857 = .ok (.aload_n 3, 1) := by decide +kernel
theorem tw_1203 : (Jvm.Cond.methodLink "MarshBellsLaw" (170 : Nat) ({ cls := "MarshBellsLaw", name := "mean", desc := "(LMarshBells;II[J)I" } : Jvm.MethodName)) ∈ lw_tbl := tk_6 (List.mem_of_getElem? (i := 3) rfl)
theorem tw_1205 : (Jvm.Cond.codeWith ({ cls := "MarshBellsLaw", name := "mean", desc := "(LMarshBells;II[J)I" } : Jvm.MethodName) method_15_code (5 : Nat) (Option.some Jvm.ClassFile.FieldType.int) [((0 : Nat), (9 : Nat), (12 : Nat), (18 : Nat))]) ∈ lw_tbl := tk_6 (List.mem_of_getElem? (i := 5) rfl)
theorem tw_1204 : (Jvm.Cond.static ({ cls := "MarshBellsLaw", name := "mean", desc := "(LMarshBells;II[J)I" } : Jvm.MethodName)) ∈ lw_tbl := tk_6 (List.mem_of_getElem? (i := 4) rfl)
theorem li_L_170 : kLH RL 170 yL_mean cL_mean 5 (some .int) [(0, 9, 12, 18)] 4 := ⟨tw_1203, tw_1204, tw_1205, tw_0, by decide +kernel⟩
theorem dL_law_858 : decode cL_law 858 = .ok (.invokestatic 170, 3) := by decide +kernel
theorem dL_law_861 : decode cL_law 861 = .ok (.istore 5, 2) := by decide +kernel
theorem dL_law_863 : decode cL_law 863 = .ok (.aload_n 2, 1) := by decide +kernel
theorem dL_law_864 : decode cL_law 864 = .ok (.aload_n 0, 1) := by decide +kernel
theorem dL_law_865 : decode cL_law 865 = .ok (.iload 4, 2) := by decide +kernel
theorem dL_law_867 : decode cL_law 867 = .ok (.iconst 1, 1) := by decide +kernel
theorem dL_law_868 : decode cL_law 868 = .ok (.iadd, 1) := by decide +kernel
theorem dL_law_869 : decode cL_law 869 = .ok (.iaload, 1) := by decide +kernel
theorem dL_law_870 : decode cL_law 870 = .ok (.aload_n 0, 1) := by decide +kernel
theorem dL_law_871 : decode cL_law 871 = .ok (.iload 4, 2) := by decide +kernel
theorem dL_law_873 : decode cL_law 873 = .ok (.iconst 2, 1) := by decide +kernel
theorem dL_law_874 : decode cL_law 874 = .ok (.iadd, 1) := by decide +kernel
theorem dL_law_875 : decode cL_law 875 = .ok (.iaload, 1) := by decide +kernel
theorem tw_1970 : (Jvm.Cond.methodLink "MarshBellsLaw" (172 : Nat) ({ cls := "MarshBellsModel", name := "mean", desc := "(II)J" } : Jvm.MethodName)) ∈ lw_tbl := tk_9 (List.mem_of_getElem? (i := 50) rfl)
theorem tw_1973 : (Jvm.Cond.code ({ cls := "MarshBellsModel", name := "mean", desc := "(II)J" } : Jvm.MethodName) prog_14_method_75_code (3 : Nat) (Option.some Jvm.ClassFile.FieldType.long)) ∈ lw_tbl := tk_9 (List.mem_of_getElem? (i := 53) rfl)
theorem tw_1971 : (Jvm.Cond.instanceMethod ({ cls := "MarshBellsModel", name := "mean", desc := "(II)J" } : Jvm.MethodName)) ∈ lw_tbl := tk_9 (List.mem_of_getElem? (i := 51) rfl)
theorem tw_1972 : (Jvm.Cond.selects "MarshBellsModel" ({ cls := "MarshBellsModel", name := "mean", desc := "(II)J" } : Jvm.MethodName) ({ cls := "MarshBellsModel", name := "mean", desc := "(II)J" } : Jvm.MethodName)) ∈ lw_tbl := tk_9 (List.mem_of_getElem? (i := 52) rfl)
theorem li_L_172 : kLV RL 172 RX12 yX12_mean cX12_mean 3 (some .long) 2 := ⟨tw_1970, tw_1971, tw_1972, tw_1973, tw_13, by decide +kernel⟩
theorem dL_law_876 : decode cL_law 876 = .ok (.invokevirtual 172, 3) := by decide +kernel
theorem dL_law_879 : decode cL_law 879 = .ok (.lstore 6, 2) := by decide +kernel
theorem dL_law_881 : decode cL_law 881 = .ok (.goto 630, 3) := by decide +kernel
theorem dL_law_884 : decode cL_law 884 = .ok (.aload_n 1, 1) := by decide +kernel
theorem dL_law_885 : decode cL_law 885 = .ok (.aload_n 0, 1) := by decide +kernel
theorem dL_law_886 : decode cL_law 886 = .ok (.iload 4, 2) := by decide +kernel
theorem dL_law_888 : decode cL_law 888 = .ok (.iconst 1, 1) := by decide +kernel
theorem dL_law_889 : decode cL_law 889 = .ok (.iadd, 1) := by decide +kernel
theorem dL_law_890 : decode cL_law 890 = .ok (.iaload, 1) := by decide +kernel
theorem dL_law_891 : decode cL_law 891 = .ok (.aload_n 3, 1) := by decide +kernel
theorem tw_1214 : (Jvm.Cond.methodLink "MarshBellsLaw" (173 : Nat) ({ cls := "MarshBellsLaw", name := "swap", desc := "(LMarshBells;I[J)I" } : Jvm.MethodName)) ∈ lw_tbl := tk_6 (List.mem_of_getElem? (i := 14) rfl)
theorem tw_1216 : (Jvm.Cond.codeWith ({ cls := "MarshBellsLaw", name := "swap", desc := "(LMarshBells;I[J)I" } : Jvm.MethodName) method_16_code (4 : Nat) (Option.some Jvm.ClassFile.FieldType.int) [((0 : Nat), (9 : Nat), (12 : Nat), (18 : Nat))]) ∈ lw_tbl := tk_6 (List.mem_of_getElem? (i := 16) rfl)
theorem tw_1215 : (Jvm.Cond.static ({ cls := "MarshBellsLaw", name := "swap", desc := "(LMarshBells;I[J)I" } : Jvm.MethodName)) ∈ lw_tbl := tk_6 (List.mem_of_getElem? (i := 15) rfl)
theorem li_L_173 : kLH RL 173 yL_swap cL_swap 4 (some .int) [(0, 9, 12, 18)] 3 := ⟨tw_1214, tw_1215, tw_1216, tw_0, by decide +kernel⟩
theorem dL_law_892 : decode cL_law 892 = .ok (.invokestatic 173, 3) := by decide +kernel
theorem dL_law_895 : decode cL_law 895 = .ok (.istore 5, 2) := by decide +kernel
theorem dL_law_897 : decode cL_law 897 = .ok (.aload_n 2, 1) := by decide +kernel
theorem dL_law_898 : decode cL_law 898 = .ok (.aload_n 0, 1) := by decide +kernel
theorem dL_law_899 : decode cL_law 899 = .ok (.iload 4, 2) := by decide +kernel
theorem dL_law_901 : decode cL_law 901 = .ok (.iconst 1, 1) := by decide +kernel
theorem dL_law_902 : decode cL_law 902 = .ok (.iadd, 1) := by decide +kernel
theorem dL_law_903 : decode cL_law 903 = .ok (.iaload, 1) := by decide +kernel
theorem tw_1974 : (Jvm.Cond.methodLink "MarshBellsLaw" (175 : Nat) ({ cls := "MarshBellsModel", name := "swap", desc := "(I)I" } : Jvm.MethodName)) ∈ lw_tbl := tk_9 (List.mem_of_getElem? (i := 54) rfl)
theorem tw_1977 : (Jvm.Cond.code ({ cls := "MarshBellsModel", name := "swap", desc := "(I)I" } : Jvm.MethodName) prog_14_method_77_code (7 : Nat) (Option.some Jvm.ClassFile.FieldType.int)) ∈ lw_tbl := tk_9 (List.mem_of_getElem? (i := 57) rfl)
theorem tw_1975 : (Jvm.Cond.instanceMethod ({ cls := "MarshBellsModel", name := "swap", desc := "(I)I" } : Jvm.MethodName)) ∈ lw_tbl := tk_9 (List.mem_of_getElem? (i := 55) rfl)
theorem tw_1976 : (Jvm.Cond.selects "MarshBellsModel" ({ cls := "MarshBellsModel", name := "swap", desc := "(I)I" } : Jvm.MethodName) ({ cls := "MarshBellsModel", name := "swap", desc := "(I)I" } : Jvm.MethodName)) ∈ lw_tbl := tk_9 (List.mem_of_getElem? (i := 56) rfl)
theorem li_L_175 : kLV RL 175 RX12 yX12_swap cX12_swap 7 (some .int) 1 := ⟨tw_1974, tw_1975, tw_1976, tw_1977, tw_13, by decide +kernel⟩
theorem dL_law_904 : decode cL_law 904 = .ok (.invokevirtual 175, 3) := by decide +kernel
theorem dL_law_907 : decode cL_law 907 = .ok (.istore 6, 2) := by decide +kernel
theorem dL_law_909 : decode cL_law 909 = .ok (.goto 602, 3) := by decide +kernel
theorem dL_law_912 : decode cL_law 912 = .ok (.aload_n 1, 1) := by decide +kernel
theorem dL_law_913 : decode cL_law 913 = .ok (.aload_n 0, 1) := by decide +kernel
theorem dL_law_914 : decode cL_law 914 = .ok (.iload 4, 2) := by decide +kernel
theorem dL_law_916 : decode cL_law 916 = .ok (.iconst 1, 1) := by decide +kernel
theorem dL_law_917 : decode cL_law 917 = .ok (.iadd, 1) := by decide +kernel
theorem dL_law_918 : decode cL_law 918 = .ok (.iaload, 1) := by decide +kernel
theorem dL_law_919 : decode cL_law 919 = .ok (.aload_n 0, 1) := by decide +kernel
theorem dL_law_920 : decode cL_law 920 = .ok (.iload 4, 2) := by decide +kernel
theorem dL_law_922 : decode cL_law 922 = .ok (.iconst 2, 1) := by decide +kernel
theorem dL_law_923 : decode cL_law 923 = .ok (.iadd, 1) := by decide +kernel
theorem dL_law_924 : decode cL_law 924 = .ok (.iaload, 1) := by decide +kernel
theorem dL_law_925 : decode cL_law 925 = .ok (.aload_n 3, 1) := by decide +kernel
theorem tw_1229 : (Jvm.Cond.methodLink "MarshBellsLaw" (176 : Nat) ({ cls := "MarshBellsLaw", name := "room", desc := "(LMarshBells;II[J)I" } : Jvm.MethodName)) ∈ lw_tbl := tk_6 (List.mem_of_getElem? (i := 29) rfl)
theorem tw_1231 : (Jvm.Cond.codeWith ({ cls := "MarshBellsLaw", name := "room", desc := "(LMarshBells;II[J)I" } : Jvm.MethodName) method_17_code (5 : Nat) (Option.some Jvm.ClassFile.FieldType.int) [((0 : Nat), (10 : Nat), (13 : Nat), (18 : Nat))]) ∈ lw_tbl := tk_6 (List.mem_of_getElem? (i := 31) rfl)
theorem tw_1230 : (Jvm.Cond.static ({ cls := "MarshBellsLaw", name := "room", desc := "(LMarshBells;II[J)I" } : Jvm.MethodName)) ∈ lw_tbl := tk_6 (List.mem_of_getElem? (i := 30) rfl)
theorem li_L_176 : kLH RL 176 yL_room cL_room 5 (some .int) [(0, 10, 13, 18)] 4 := ⟨tw_1229, tw_1230, tw_1231, tw_0, by decide +kernel⟩
theorem dL_law_926 : decode cL_law 926 = .ok (.invokestatic 176, 3) := by decide +kernel
theorem dL_law_929 : decode cL_law 929 = .ok (.istore 5, 2) := by decide +kernel
theorem dL_law_931 : decode cL_law 931 = .ok (.aload_n 2, 1) := by decide +kernel
theorem dL_law_932 : decode cL_law 932 = .ok (.aload_n 0, 1) := by decide +kernel
theorem dL_law_933 : decode cL_law 933 = .ok (.iload 4, 2) := by decide +kernel
theorem dL_law_935 : decode cL_law 935 = .ok (.iconst 1, 1) := by decide +kernel
theorem dL_law_936 : decode cL_law 936 = .ok (.iadd, 1) := by decide +kernel
theorem dL_law_937 : decode cL_law 937 = .ok (.iaload, 1) := by decide +kernel
theorem dL_law_938 : decode cL_law 938 = .ok (.aload_n 0, 1) := by decide +kernel
theorem dL_law_939 : decode cL_law 939 = .ok (.iload 4, 2) := by decide +kernel
theorem dL_law_941 : decode cL_law 941 = .ok (.iconst 2, 1) := by decide +kernel
theorem dL_law_942 : decode cL_law 942 = .ok (.iadd, 1) := by decide +kernel
theorem dL_law_943 : decode cL_law 943 = .ok (.iaload, 1) := by decide +kernel
theorem tw_1982 : (Jvm.Cond.methodLink "MarshBellsLaw" (178 : Nat) ({ cls := "MarshBellsModel", name := "room", desc := "(II)I" } : Jvm.MethodName)) ∈ lw_tbl := tk_9 (List.mem_of_getElem? (i := 62) rfl)
theorem tw_1985 : (Jvm.Cond.code ({ cls := "MarshBellsModel", name := "room", desc := "(II)I" } : Jvm.MethodName) prog_14_method_79_code (3 : Nat) (Option.some Jvm.ClassFile.FieldType.int)) ∈ lw_tbl := tk_9 (List.mem_of_getElem? (i := 65) rfl)
theorem tw_1983 : (Jvm.Cond.instanceMethod ({ cls := "MarshBellsModel", name := "room", desc := "(II)I" } : Jvm.MethodName)) ∈ lw_tbl := tk_9 (List.mem_of_getElem? (i := 63) rfl)
theorem tw_1984 : (Jvm.Cond.selects "MarshBellsModel" ({ cls := "MarshBellsModel", name := "room", desc := "(II)I" } : Jvm.MethodName) ({ cls := "MarshBellsModel", name := "room", desc := "(II)I" } : Jvm.MethodName)) ∈ lw_tbl := tk_9 (List.mem_of_getElem? (i := 64) rfl)
theorem li_L_178 : kLV RL 178 RX12 yX12_room cX12_room 3 (some .int) 2 := ⟨tw_1982, tw_1983, tw_1984, tw_1985, tw_13, by decide +kernel⟩
theorem dL_law_944 : decode cL_law 944 = .ok (.invokevirtual 178, 3) := by decide +kernel
theorem dL_law_947 : decode cL_law 947 = .ok (.istore 6, 2) := by decide +kernel
theorem dL_law_949 : decode cL_law 949 = .ok (.goto 562, 3) := by decide +kernel
theorem dL_law_952 : decode cL_law 952 = .ok (.aload_n 1, 1) := by decide +kernel
theorem dL_law_953 : decode cL_law 953 = .ok (.aload_n 0, 1) := by decide +kernel
theorem dL_law_954 : decode cL_law 954 = .ok (.iload 4, 2) := by decide +kernel
theorem dL_law_956 : decode cL_law 956 = .ok (.iconst 1, 1) := by decide +kernel
theorem dL_law_957 : decode cL_law 957 = .ok (.iadd, 1) := by decide +kernel
theorem dL_law_958 : decode cL_law 958 = .ok (.iaload, 1) := by decide +kernel
theorem dL_law_959 : decode cL_law 959 = .ok (.aload_n 0, 1) := by decide +kernel
theorem dL_law_960 : decode cL_law 960 = .ok (.iload 4, 2) := by decide +kernel
theorem dL_law_962 : decode cL_law 962 = .ok (.iconst 2, 1) := by decide +kernel
theorem dL_law_963 : decode cL_law 963 = .ok (.iadd, 1) := by decide +kernel
theorem dL_law_964 : decode cL_law 964 = .ok (.iaload, 1) := by decide +kernel
theorem dL_law_965 : decode cL_law 965 = .ok (.aload_n 3, 1) := by decide +kernel
theorem tw_1243 : (Jvm.Cond.methodLink "MarshBellsLaw" (179 : Nat) ({ cls := "MarshBellsLaw", name := "limit", desc := "(LMarshBells;II[J)I" } : Jvm.MethodName)) ∈ lw_tbl := tk_6 (List.mem_of_getElem? (i := 43) rfl)
theorem tw_1245 : (Jvm.Cond.codeWith ({ cls := "MarshBellsLaw", name := "limit", desc := "(LMarshBells;II[J)I" } : Jvm.MethodName) method_18_code (5 : Nat) (Option.some Jvm.ClassFile.FieldType.int) [((0 : Nat), (10 : Nat), (13 : Nat), (18 : Nat))]) ∈ lw_tbl := tk_6 (List.mem_of_getElem? (i := 45) rfl)
theorem tw_1244 : (Jvm.Cond.static ({ cls := "MarshBellsLaw", name := "limit", desc := "(LMarshBells;II[J)I" } : Jvm.MethodName)) ∈ lw_tbl := tk_6 (List.mem_of_getElem? (i := 44) rfl)
theorem li_L_179 : kLH RL 179 yL_limit cL_limit 5 (some .int) [(0, 10, 13, 18)] 4 := ⟨tw_1243, tw_1244, tw_1245, tw_0, by decide +kernel⟩
theorem dL_law_966 : decode cL_law 966 = .ok (.invokestatic 179, 3) := by decide +kernel
theorem dL_law_969 : decode cL_law 969 = .ok (.istore 5, 2) := by decide +kernel
theorem dL_law_971 : decode cL_law 971 = .ok (.aload_n 2, 1) := by decide +kernel
theorem dL_law_972 : decode cL_law 972 = .ok (.aload_n 0, 1) := by decide +kernel
theorem dL_law_973 : decode cL_law 973 = .ok (.iload 4, 2) := by decide +kernel
theorem dL_law_975 : decode cL_law 975 = .ok (.iconst 1, 1) := by decide +kernel
theorem dL_law_976 : decode cL_law 976 = .ok (.iadd, 1) := by decide +kernel
theorem dL_law_977 : decode cL_law 977 = .ok (.iaload, 1) := by decide +kernel
theorem dL_law_978 : decode cL_law 978 = .ok (.aload_n 0, 1) := by decide +kernel
theorem dL_law_979 : decode cL_law 979 = .ok (.iload 4, 2) := by decide +kernel
theorem dL_law_981 : decode cL_law 981 = .ok (.iconst 2, 1) := by decide +kernel
theorem dL_law_982 : decode cL_law 982 = .ok (.iadd, 1) := by decide +kernel
theorem dL_law_983 : decode cL_law 983 = .ok (.iaload, 1) := by decide +kernel
theorem tw_1990 : (Jvm.Cond.methodLink "MarshBellsLaw" (181 : Nat) ({ cls := "MarshBellsModel", name := "limit", desc := "(II)I" } : Jvm.MethodName)) ∈ lw_tbl := tk_9 (List.mem_of_getElem? (i := 70) rfl)
theorem tw_1993 : (Jvm.Cond.code ({ cls := "MarshBellsModel", name := "limit", desc := "(II)I" } : Jvm.MethodName) prog_14_method_80_code (3 : Nat) (Option.some Jvm.ClassFile.FieldType.int)) ∈ lw_tbl := tk_9 (List.mem_of_getElem? (i := 73) rfl)
theorem tw_1991 : (Jvm.Cond.instanceMethod ({ cls := "MarshBellsModel", name := "limit", desc := "(II)I" } : Jvm.MethodName)) ∈ lw_tbl := tk_9 (List.mem_of_getElem? (i := 71) rfl)
theorem tw_1992 : (Jvm.Cond.selects "MarshBellsModel" ({ cls := "MarshBellsModel", name := "limit", desc := "(II)I" } : Jvm.MethodName) ({ cls := "MarshBellsModel", name := "limit", desc := "(II)I" } : Jvm.MethodName)) ∈ lw_tbl := tk_9 (List.mem_of_getElem? (i := 72) rfl)
theorem li_L_181 : kLV RL 181 RX12 yX12_limit cX12_limit 3 (some .int) 2 := ⟨tw_1990, tw_1991, tw_1992, tw_1993, tw_13, by decide +kernel⟩
theorem dL_law_984 : decode cL_law 984 = .ok (.invokevirtual 181, 3) := by decide +kernel
theorem dL_law_987 : decode cL_law 987 = .ok (.istore 6, 2) := by decide +kernel
theorem dL_law_989 : decode cL_law 989 = .ok (.goto 522, 3) := by decide +kernel
