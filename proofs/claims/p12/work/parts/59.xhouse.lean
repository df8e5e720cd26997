theorem tw_502 : (Jvm.Cond.laysFinal "MarshBells" "MarshBells" "tape" "[I") ∈ lw_tbl := tk_3 (List.mem_of_getElem? (i := 22) rfl)
theorem tw_504 : (Jvm.Cond.laysFinal "MarshBells" "MarshBells" "refused" "[I") ∈ lw_tbl := tk_3 (List.mem_of_getElem? (i := 24) rfl)
theorem tw_506 : (Jvm.Cond.laysFinal "MarshBells" "MarshBells" "keptGaps" "[I") ∈ lw_tbl := tk_3 (List.mem_of_getElem? (i := 26) rfl)
theorem tw_508 : (Jvm.Cond.lays "MarshBells" "MarshBells" "plan" "LMarshBells$Plan;") ∈ lw_tbl := tk_3 (List.mem_of_getElem? (i := 28) rfl)
theorem tw_510 : (Jvm.Cond.lays "MarshBells" "MarshBells" "spare" "LMarshBells$Plan;") ∈ lw_tbl := tk_3 (List.mem_of_getElem? (i := 30) rfl)
theorem tw_512 : (Jvm.Cond.laysFinal "MarshBells" "MarshBells" "parser" "LMarshBells$Parser;") ∈ lw_tbl := tk_3 (List.mem_of_getElem? (i := 32) rfl)
theorem tw_514 : (Jvm.Cond.laysFinal "MarshBells" "MarshBells" "held" "LMarshBells$Held;") ∈ lw_tbl := tk_3 (List.mem_of_getElem? (i := 34) rfl)
theorem tw_516 : (Jvm.Cond.laysFinal "MarshBells" "MarshBells" "kept" "LMarshBells$Held;") ∈ lw_tbl := tk_3 (List.mem_of_getElem? (i := 36) rfl)
theorem tw_518 : (Jvm.Cond.laysFinal "MarshBells" "MarshBells" "today" "LMarshBells$Day;") ∈ lw_tbl := tk_3 (List.mem_of_getElem? (i := 38) rfl)
theorem tw_520 : (Jvm.Cond.laysFinal "MarshBells" "MarshBells" "trials" "LMarshBells$Trials;") ∈ lw_tbl := tk_3 (List.mem_of_getElem? (i := 40) rfl)
theorem tw_522 : (Jvm.Cond.laysFinal "MarshBells" "MarshBells" "search" "LMarshBells$GapSearch;") ∈ lw_tbl := tk_3 (List.mem_of_getElem? (i := 42) rfl)
theorem tw_524 : (Jvm.Cond.laysFinal "MarshBells" "MarshBells" "chances" "LMarshBells$Chances;") ∈ lw_tbl := tk_3 (List.mem_of_getElem? (i := 44) rfl)
theorem tw_526 : (Jvm.Cond.laysFinal "MarshBells" "MarshBells" "stairs" "LMarshBells$Stair;") ∈ lw_tbl := tk_3 (List.mem_of_getElem? (i := 46) rfl)
theorem tw_528 : (Jvm.Cond.lays "MarshBells" "MarshBells" "taped" "I") ∈ lw_tbl := tk_3 (List.mem_of_getElem? (i := 48) rfl)
theorem tw_530 : (Jvm.Cond.lays "MarshBells" "MarshBells" "faultPlace" "I") ∈ lw_tbl := tk_3 (List.mem_of_getElem? (i := 50) rfl)
theorem tw_532 : (Jvm.Cond.lays "MarshBells" "MarshBells" "hasImage" "Z") ∈ lw_tbl := tk_3 (List.mem_of_getElem? (i := 52) rfl)
theorem tw_534 : (Jvm.Cond.lays "MarshBells" "MarshBells" "hasGaps" "Z") ∈ lw_tbl := tk_3 (List.mem_of_getElem? (i := 54) rfl)
theorem inWX11 : ∀ w ∈ u_ws RX11 TX11 17, w ∈ lw_tbl := by
  have e : ∀ k, k < 17 → u_lay RX11 TX11 k ∈ lw_tbl := fun k hk => match k, hk with | 0, _ => tw_502 | 1, _ => tw_504 | 2, _ => tw_506 | 3, _ => tw_508 | 4, _ => tw_510 | 5, _ => tw_512 | 6, _ => tw_514 | 7, _ => tw_516 | 8, _ => tw_518 | 9, _ => tw_520 | 10, _ => tw_522 | 11, _ => tw_524 | 12, _ => tw_526 | 13, _ => tw_528 | 14, _ => tw_530 | 15, _ => tw_532 | 16, _ => tw_534 | k + 17, hk => absurd hk (by omega)
  intro w h
  obtain ⟨k, hk, rfl⟩ := List.mem_map.mp h
  exact e k (List.mem_range.mp hk)
theorem tw_498 : (Jvm.Cond.fieldLink "MarshBells" (87 : Nat) "MarshBells" "taped" "I") ∈ lw_tbl := tk_3 (List.mem_of_getElem? (i := 18) rfl)
theorem fl_X11_87 : kFL RX11 87 11 17 13 := ⟨RX11, TX11, rfl, by decide, inWX11, tw_498⟩
theorem tw_490 : (Jvm.Cond.fieldLink "MarshBells" (34 : Nat) "MarshBells" "parser" "LMarshBells$Parser;") ∈ lw_tbl := tk_3 (List.mem_of_getElem? (i := 10) rfl)
theorem fl_X11_34 : kFL RX11 34 11 17 5 := ⟨RX11, TX11, rfl, by decide, inWX11, tw_490⟩
theorem tw_489 : (Jvm.Cond.fieldLink "MarshBells" (26 : Nat) "MarshBells" "spare" "LMarshBells$Plan;") ∈ lw_tbl := tk_3 (List.mem_of_getElem? (i := 9) rfl)
theorem fl_X11_26 : kFL RX11 26 11 17 4 := ⟨RX11, TX11, rfl, by decide, inWX11, tw_489⟩
theorem tw_204 : (Jvm.Cond.fieldLinkNest "MarshBells" (112 : Nat) "MarshBells$Parser" "faultPlace" "I" "MarshBells") ∈ lw_tbl := tk_1 (List.mem_of_getElem? (i := 204) rfl)
theorem fl_X11_112 : kFN RX11 112 6 11 8 := ⟨RX6, TX6, rfl, by decide, inWX6, tw_204⟩
theorem tw_202 : (Jvm.Cond.fieldLinkNest "MarshBells" (113 : Nat) "MarshBells$Parser" "fault" "I" "MarshBells") ∈ lw_tbl := tk_1 (List.mem_of_getElem? (i := 202) rfl)
theorem fl_X11_113 : kFN RX11 113 6 11 7 := ⟨RX6, TX6, rfl, by decide, inWX6, tw_202⟩
theorem tw_486 : (Jvm.Cond.fieldLink "MarshBells" (13 : Nat) "MarshBells" "refused" "[I") ∈ lw_tbl := tk_3 (List.mem_of_getElem? (i := 6) rfl)
theorem fl_X11_13 : kFL RX11 13 11 17 1 := ⟨RX11, TX11, rfl, by decide, inWX11, tw_486⟩
theorem tw_488 : (Jvm.Cond.fieldLink "MarshBells" (22 : Nat) "MarshBells" "plan" "LMarshBells$Plan;") ∈ lw_tbl := tk_3 (List.mem_of_getElem? (i := 8) rfl)
theorem fl_X11_22 : kFL RX11 22 11 17 3 := ⟨RX11, TX11, rfl, by decide, inWX11, tw_488⟩
theorem tw_493 : (Jvm.Cond.fieldLink "MarshBells" (53 : Nat) "MarshBells" "today" "LMarshBells$Day;") ∈ lw_tbl := tk_3 (List.mem_of_getElem? (i := 13) rfl)
theorem fl_X11_53 : kFL RX11 53 11 17 8 := ⟨RX11, TX11, rfl, by decide, inWX11, tw_493⟩
theorem tw_491 : (Jvm.Cond.fieldLink "MarshBells" (41 : Nat) "MarshBells" "held" "LMarshBells$Held;") ∈ lw_tbl := tk_3 (List.mem_of_getElem? (i := 11) rfl)
theorem fl_X11_41 : kFL RX11 41 11 17 6 := ⟨RX11, TX11, rfl, by decide, inWX11, tw_491⟩
theorem dX11_house_0 : decode cX11_house 0 = .ok (.iload_n 1, 1) := by decide +kernel
theorem th_X11_105_107 : ∀ w ∈ Cond.classLink RX11 105 "java/lang/IllegalArgumentException" :: Cond.initialized "java/lang/IllegalArgumentException" :: vx_at0 RX11 107 "java/lang/IllegalArgumentException" ["java/lang/RuntimeException", "java/lang/Exception"], w ∈ lw_tbl ∧ kOk w = true ∧ vx_ot w = true := by decide +kernel
theorem dX11_house_12 : decode cX11_house 12 = .ok (.new 105, 3) := by decide +kernel
theorem dX11_house_15 : decode cX11_house 15 = .ok (.dup, 1) := by decide +kernel
theorem dX11_house_16 : decode cX11_house 16 = .ok (.invokespecial 107, 3) := by decide +kernel
theorem dX11_house_19 : decode cX11_house 19 = .ok (.athrow, 1) := by decide +kernel
theorem dX11_house_1 : decode cX11_house 1 = .ok (.ifCond .lt 11, 3) := by decide +kernel
theorem dX11_house_4 : decode cX11_house 4 = .ok (.iload_n 1, 1) := by decide +kernel
theorem dX11_house_5 : decode cX11_house 5 = .ok (.aload_n 0, 1) := by decide +kernel
theorem dX11_house_6 : decode cX11_house 6 = .ok (.getfield 87, 3) := by decide +kernel
theorem dX11_house_9 : decode cX11_house 9 = .ok (.if_icmp .le 11, 3) := by decide +kernel
theorem dX11_house_20 : decode cX11_house 20 = .ok (.aload_n 0, 1) := by decide +kernel
theorem dX11_house_21 : decode cX11_house 21 = .ok (.iconst 0, 1) := by decide +kernel
theorem ft_X11_13 : kFT 11 13 .int false RX11 := ⟨RX11, TX11, 17, tyX11, rfl, tyX11_ok, nmX11, rfl, by decide +kernel, rfl⟩
theorem dX11_house_22 : decode cX11_house 22 = .ok (.putfield 87, 3) := by decide +kernel
theorem dX11_house_25 : decode cX11_house 25 = .ok (.aload_n 0, 1) := by decide +kernel
theorem dX11_house_26 : decode cX11_house 26 = .ok (.getfield 34, 3) := by decide +kernel
theorem dX11_house_29 : decode cX11_house 29 = .ok (.iload_n 1, 1) := by decide +kernel
theorem dX11_house_30 : decode cX11_house 30 = .ok (.aload_n 0, 1) := by decide +kernel
theorem dX11_house_31 : decode cX11_house 31 = .ok (.getfield 26, 3) := by decide +kernel
theorem tw_799 : (Jvm.Cond.methodLinkNest "MarshBells" (108 : Nat) ({ cls := "MarshBells$Parser", name := "read", desc := "(ILMarshBells$Plan;)V" } : Jvm.MethodName) "MarshBells") ∈ lw_tbl := tk_4 (List.mem_of_getElem? (i := 79) rfl)
theorem tw_802 : (Jvm.Cond.code ({ cls := "MarshBells$Parser", name := "read", desc := "(ILMarshBells$Plan;)V" } : Jvm.MethodName) prog_8_method_2_code (4 : Nat) (Option.none : Option Jvm.ClassFile.FieldType)) ∈ lw_tbl := tk_4 (List.mem_of_getElem? (i := 82) rfl)
theorem tw_801 : (Jvm.Cond.instanceMethod ({ cls := "MarshBells$Parser", name := "read", desc := "(ILMarshBells$Plan;)V" } : Jvm.MethodName)) ∈ lw_tbl := tk_4 (List.mem_of_getElem? (i := 81) rfl)
theorem se_X6_read : Cond.selects RX6 yX6_read yX6_read ∈ lw_tbl := List.mem_append_left _ (List.mem_of_getElem? (i := 33) rfl)
theorem li_X11_108 : kLN RX11 108 RX6 yX6_read "MarshBells" cX6_read 4 none 2 := ⟨tw_799, tw_801, se_X6_read, tw_802, tw_5, by decide +kernel⟩
theorem dX11_house_34 : decode cX11_house 34 = .ok (.invokevirtual 108, 3) := by decide +kernel
theorem dX11_house_37 : decode cX11_house 37 = .ok (.aload_n 0, 1) := by decide +kernel
theorem dX11_house_38 : decode cX11_house 38 = .ok (.aload_n 0, 1) := by decide +kernel
theorem dX11_house_39 : decode cX11_house 39 = .ok (.getfield 34, 3) := by decide +kernel
theorem dX11_house_42 : decode cX11_house 42 = .ok (.getfield 112, 3) := by decide +kernel
theorem tw_499 : (Jvm.Cond.fieldLink "MarshBells" (91 : Nat) "MarshBells" "faultPlace" "I") ∈ lw_tbl := tk_3 (List.mem_of_getElem? (i := 19) rfl)
theorem fl_X11_91 : kFL RX11 91 11 17 14 := ⟨RX11, TX11, rfl, by decide, inWX11, tw_499⟩
theorem ft_X11_14 : kFT 11 14 .int false RX11 := ⟨RX11, TX11, 17, tyX11, rfl, tyX11_ok, nmX11, rfl, by decide +kernel, rfl⟩
theorem dX11_house_45 : decode cX11_house 45 = .ok (.putfield 91, 3) := by decide +kernel
theorem dX11_house_48 : decode cX11_house 48 = .ok (.aload_n 0, 1) := by decide +kernel
theorem dX11_house_49 : decode cX11_house 49 = .ok (.getfield 34, 3) := by decide +kernel
theorem dX11_house_52 : decode cX11_house 52 = .ok (.getfield 113, 3) := by decide +kernel
theorem dX11_house_55 : decode cX11_house 55 = .ok (.ifCond .eq 21, 3) := by decide +kernel
theorem dX11_house_76 : decode cX11_house 76 = .ok (.aload_n 0, 1) := by decide +kernel
theorem dX11_house_77 : decode cX11_house 77 = .ok (.getfield 26, 3) := by decide +kernel
theorem dX11_house_80 : decode cX11_house 80 = .ok (.astore_n 2, 1) := by decide +kernel
theorem dX11_house_81 : decode cX11_house 81 = .ok (.aload_n 0, 1) := by decide +kernel
theorem dX11_house_82 : decode cX11_house 82 = .ok (.aload_n 0, 1) := by decide +kernel
theorem dX11_house_83 : decode cX11_house 83 = .ok (.getfield 22, 3) := by decide +kernel
theorem ft_X11_4 : kFT 11 4 (.object "MarshBells$Plan") false RX11 := ⟨RX11, TX11, 17, tyX11, rfl, tyX11_ok, nmX11, rfl, by decide +kernel, rfl⟩
theorem dX11_house_86 : decode cX11_house 86 = .ok (.putfield 26, 3) := by decide +kernel
theorem dX11_house_89 : decode cX11_house 89 = .ok (.aload_n 0, 1) := by decide +kernel
theorem dX11_house_90 : decode cX11_house 90 = .ok (.aload_n 2, 1) := by decide +kernel
theorem ft_X11_3 : kFT 11 3 (.object "MarshBells$Plan") false RX11 := ⟨RX11, TX11, 17, tyX11, rfl, tyX11_ok, nmX11, rfl, by decide +kernel, rfl⟩
theorem dX11_house_91 : decode cX11_house 91 = .ok (.putfield 22, 3) := by decide +kernel
theorem dX11_house_94 : decode cX11_house 94 = .ok (.aload_n 0, 1) := by decide +kernel
theorem dX11_house_95 : decode cX11_house 95 = .ok (.getfield 53, 3) := by decide +kernel
theorem dX11_house_98 : decode cX11_house 98 = .ok (.aload_n 2, 1) := by decide +kernel
theorem tw_318 : (Jvm.Cond.fieldLinkNest "MarshBells" (116 : Nat) "MarshBells$Day" "plan" "LMarshBells$Plan;" "MarshBells") ∈ lw_tbl := tk_2 (List.mem_of_getElem? (i := 78) rfl)
theorem fl_X11_116 : kFN RX11 116 1 10 7 := ⟨RX1, TX1, rfl, by decide, inWX1, tw_318⟩
theorem ft_X1_7 : kFT 1 7 (.object "MarshBells$Plan") false RX1 := ⟨RX1, TX1, 10, tyX1, rfl, tyX1_ok, nmX1, rfl, by decide +kernel, rfl⟩
theorem dX11_house_99 : decode cX11_house 99 = .ok (.putfield 116, 3) := by decide +kernel
theorem dX11_house_102 : decode cX11_house 102 = .ok (.aload_n 0, 1) := by decide +kernel
theorem dX11_house_103 : decode cX11_house 103 = .ok (.getfield 41, 3) := by decide +kernel
theorem dX11_house_106 : decode cX11_house 106 = .ok (.aload_n 2, 1) := by decide +kernel
theorem tw_984 : (Jvm.Cond.methodLinkNest "MarshBells" (117 : Nat) ({ cls := "MarshBells$Held", name := "start", desc := "(LMarshBells$Plan;)V" } : Jvm.MethodName) "MarshBells") ∈ lw_tbl := tk_5 (List.mem_of_getElem? (i := 24) rfl)
theorem tw_987 : (Jvm.Cond.code ({ cls := "MarshBells$Held", name := "start", desc := "(LMarshBells$Plan;)V" } : Jvm.MethodName) prog_5_method_2_code (4 : Nat) (Option.none : Option Jvm.ClassFile.FieldType)) ∈ lw_tbl := tk_5 (List.mem_of_getElem? (i := 27) rfl)
theorem tw_986 : (Jvm.Cond.instanceMethod ({ cls := "MarshBells$Held", name := "start", desc := "(LMarshBells$Plan;)V" } : Jvm.MethodName)) ∈ lw_tbl := tk_5 (List.mem_of_getElem? (i := 26) rfl)
theorem se_X3_start : Cond.selects RX3 yX3_start yX3_start ∈ lw_tbl := List.mem_append_left _ (List.mem_of_getElem? (i := 62) rfl)
theorem li_X11_117 : kLN RX11 117 RX3 yX3_start "MarshBells" cX3_start 4 none 1 := ⟨tw_984, tw_986, se_X3_start, tw_987, tw_6, by decide +kernel⟩
theorem dX11_house_107 : decode cX11_house 107 = .ok (.invokevirtual 117, 3) := by decide +kernel
theorem dX11_house_110 : decode cX11_house 110 = .ok (.aload_n 0, 1) := by decide +kernel
theorem dX11_house_111 : decode cX11_house 111 = .ok (.iconst 0, 1) := by decide +kernel
theorem tw_500 : (Jvm.Cond.fieldLink "MarshBells" (94 : Nat) "MarshBells" "hasImage" "Z") ∈ lw_tbl := tk_3 (List.mem_of_getElem? (i := 20) rfl)
theorem fl_X11_94 : kFL RX11 94 11 17 15 := ⟨RX11, TX11, rfl, by decide, inWX11, tw_500⟩
theorem ft_X11_15 : kFT 11 15 .boolean false RX11 := ⟨RX11, TX11, 17, tyX11, rfl, tyX11_ok, nmX11, rfl, by decide +kernel, rfl⟩
theorem dX11_house_112 : decode cX11_house 112 = .ok (.putfield 94, 3) := by decide +kernel
theorem dX11_house_115 : decode cX11_house 115 = .ok (.aload_n 0, 1) := by decide +kernel
theorem dX11_house_116 : decode cX11_house 116 = .ok (.iconst 0, 1) := by decide +kernel
theorem tw_501 : (Jvm.Cond.fieldLink "MarshBells" (98 : Nat) "MarshBells" "hasGaps" "Z") ∈ lw_tbl := tk_3 (List.mem_of_getElem? (i := 21) rfl)
theorem fl_X11_98 : kFL RX11 98 11 17 16 := ⟨RX11, TX11, rfl, by decide, inWX11, tw_501⟩
theorem ft_X11_16 : kFT 11 16 .boolean false RX11 := ⟨RX11, TX11, 17, tyX11, rfl, tyX11_ok, nmX11, rfl, by decide +kernel, rfl⟩
theorem dX11_house_117 : decode cX11_house 117 = .ok (.putfield 98, 3) := by decide +kernel
theorem dX11_house_120 : decode cX11_house 120 = .ok (.iconst 0, 1) := by decide +kernel
theorem dX11_house_121 : decode cX11_house 121 = .ok (.ireturn, 1) := by decide +kernel
theorem dX11_house_58 : decode cX11_house 58 = .ok (.aload_n 0, 1) := by decide +kernel
theorem dX11_house_59 : decode cX11_house 59 = .ok (.getfield 13, 3) := by decide +kernel
theorem dX11_house_62 : decode cX11_house 62 = .ok (.iconst 0, 1) := by decide +kernel
theorem dX11_house_63 : decode cX11_house 63 = .ok (.dup2, 1) := by decide +kernel
theorem dX11_house_64 : decode cX11_house 64 = .ok (.iaload, 1) := by decide +kernel
theorem dX11_house_65 : decode cX11_house 65 = .ok (.iconst 1, 1) := by decide +kernel
theorem dX11_house_66 : decode cX11_house 66 = .ok (.iadd, 1) := by decide +kernel
theorem dX11_house_67 : decode cX11_house 67 = .ok (.iastore, 1) := by decide +kernel
theorem dX11_house_68 : decode cX11_house 68 = .ok (.aload_n 0, 1) := by decide +kernel
theorem dX11_house_69 : decode cX11_house 69 = .ok (.getfield 34, 3) := by decide +kernel
theorem dX11_house_72 : decode cX11_house 72 = .ok (.getfield 113, 3) := by decide +kernel
theorem dX11_house_75 : decode cX11_house 75 = .ok (.ireturn, 1) := by decide +kernel
def fX3_start_6_2_s2 (fu : Nat) (k2 : Int32 × (Nat → Nat → Int32) × (Nat → Nat → Int64) → Option ((Unit) × zS)) (v2 : Int32) (g : Nat → Nat → Int32) (L : Nat → Nat → Int64) : Option ((Unit) × zS) :=
  if (g 2 2) ≤ v2 then sti g 6 9 0 (fun g2 =>
  sti g2 6 10 0 (fun g3 =>
  sti g3 6 11 (-1) (fun g4 =>
  some ((), (g4, L)))))
  else ck v2 12 (ltn (69 + (Int32.toNatClampNeg v2) % 12) (fun q5 =>
  ck v2 12 (sti g 25 (Int32.toNatClampNeg v2) (g q5 6) (fun g6 =>
  ck v2 12 (sti g6 26 (Int32.toNatClampNeg v2) (g6 q5 13) (fun g7 =>
  ck v2 12 (sti g7 27 (Int32.toNatClampNeg v2) (g7 q5 7) (fun g8 =>
  ck v2 12 (sti g8 28 (Int32.toNatClampNeg v2) (g8 q5 11) (fun g9 =>
  k2 ((v2 + 1), g9, L)))))))))))
def fX3_start_6_2_l2 (fu : Nat) (v2 : Int32) (g : Nat → Nat → Int32) (L : Nat → Nat → Int64) : Option ((Unit) × zS) :=
  whileK (fun k v => fX3_start_6_2_s2 fu k v.1 v.2.1 v.2.2) fu (v2, g, L)
def fX3_start_6_2 (fu : Nat) (g : Nat → Nat → Int32) (L : Nat → Nat → Int64) : Option ((Unit) × zS) :=
  fX3_start_6_2_l2 fu 0 g L
set_option maxHeartbeats 4000000 in
set_option maxRecDepth 100000 in
theorem rX3_start_6_2 (l : Launch) (G : kG) (sz : Nat) (b : Nat) (a : Nat → Nat) (fu : Nat) (g : Nat → Nat → Int32) (L : Nat → Nat → Int64) (res : Unit) (s9 : zS) (h : fX3_start_6_2 fu g L = some (res, s9)) : kM l yX3_start cX3_start 4 none { frames := 6, cells := 0, slots := 0, locals := 110 } G [.ref (a 6), .ref (a 2)] (zw G (XS b) 105 a g L) sz (kQv G (S := Unit) (fun _ => True) (fun _ => zw G (XS b) 105 a s9.1 s9.2)) := by
  refine kM.of (by decide) (Nat.le_of_ble_eq_true rfl) ?_
  intro p e s m below meth c A ls H C hr hlk hnm hP hD hS hl
  have C : kC G p s m c cX3_start 4 RX3 A := C
  have hx := C.1
  have hb := C.2.1
  have hl : lv_has ls 4 [(0, .ref (a 6)), (1, .ref (a 2))] := hl
  obtain ⟨locs, hlocs⟩ : ∃ q : List Loc, q = [] := ⟨_, rfl⟩
  rw [← hlocs] at hS
  rw [← hlocs]
  unfold fX3_start_6_2 at h
  refine lv_iconst (v := 0) hx hb dX3_start_0 (by decide) ?_
  refine lv_istore_n (lv' := [(2, .int 0), (0, .ref (a 6)), (1, .ref (a 2))]) hx hb dX3_start_1 rfl hl (by decide) rfl (fun ls hl => ?_)
  have lp2 : ∀ (_ : True), ∀ (n : Nat) (v : Int32 × (Nat → Nat → Int32) × (Nat → Nat → Int64)), whileK (fun k v => fX3_start_6_2_s2 fu k v.1 v.2.1 v.2.2) n v = some (res, s9) → ∀ (H : Heap) (locs : List Loc) (ls : Array Slot), va_P G.1 vwCl (zw G (XS b) 105 a (v.2.1) (v.2.2)) H → va_D A (zw G (XS b) 105 a (v.2.1) (v.2.2)) → va_S A s.heap H locs → lv_has ls 4 [(0, .ref (a 6)), (1, .ref (a 2)), (2, .int (v.1))] → W p l e { frames := 6, cells := 0, slots := 0, locals := 110 } s m [.ref (a 6), .ref (a 2)].toArray below meth c H locs 0 0 (MQ below ((kQv G (S := Unit) (fun _ => True) (fun _ => zw G (XS b) 105 a s9.1 s9.2)) A) [.ref (a 6), .ref (a 2)].toArray s 0 0 A) (F0 m 2 ls []) := by
    intro _
    refine while_ind (fun k2 ih2 v h => ?_)
    obtain ⟨v2, g, L⟩ := v
    intro H locs ls hP hD hS hl
    have h : fX3_start_6_2_s2 fu k2 v2 g L = some (res, s9) := h
    have hP : va_P G.1 vwCl (zw G (XS b) 105 a g L) H := hP
    have hD : va_D A (zw G (XS b) 105 a g L) := hD
    have hl : lv_has ls 4 [(0, .ref (a 6)), (1, .ref (a 2)), (2, .int v2)] := hl
    show W p l e { frames := 6, cells := 0, slots := 0, locals := 110 } s m [.ref (a 6), .ref (a 2)].toArray below meth c H locs 0 0 (MQ below ((kQv G (S := Unit) (fun _ => True) (fun _ => zw G (XS b) 105 a s9.1 s9.2)) A) [.ref (a 6), .ref (a 2)].toArray s 0 0 A) (F0 m 2 ls [])
    unfold fX3_start_6_2_s2 at h
    refine lv_iload_n hx hb dX3_start_2 rfl (lv_at hl 2 rfl) ?_
    refine lv_aload_n hx hb dX3_start_3 rfl (lv_at hl 1 rfl) ?_
    refine x_getv (v := .int (g 2 2)) (Or.inr fl_X3_49) C hP (by decide) xs_2 rfl dX3_start_4 ?_
    refine lv_icmp_ge (x := v2) (y := (g 2 2)) (tgt := 63) hx hb dX3_start_7 (by decide) (fun c1 => ?_) (fun c1 => ?_)
    ·
      have h := ite_t c1 h
      refine lv_aload_n hx hb dX3_start_63 rfl (lv_at hl 0 rfl) ?_
      refine lv_iconst (v := 0) hx hb dX3_start_64 (by decide) ?_
      refine y_puti (Or.inl fl_X3_39) ft_X3_9 C hP hD hS (by decide) xs_6 rfl rfl rfl dX3_start_65 h (fun g2 H locs h hP hD hS => ?_)
      refine lv_aload_n hx hb dX3_start_68 rfl (lv_at hl 0 rfl) ?_
      refine lv_iconst (v := 0) hx hb dX3_start_69 (by decide) ?_
      refine y_puti (Or.inl fl_X3_43) ft_X3_10 C hP hD hS (by decide) xs_6 rfl rfl rfl dX3_start_70 h (fun g3 H locs h hP hD hS => ?_)
      refine lv_aload_n hx hb dX3_start_73 rfl (lv_at hl 0 rfl) ?_
      refine lv_iconst (v := -1) hx hb dX3_start_74 (by decide) ?_
      refine y_puti (Or.inl fl_X3_46) ft_X3_11 C hP hD hS (by decide) xs_6 rfl rfl rfl dX3_start_75 h (fun g4 H locs h hP hD hS => ?_)
      exact y_vret C hr hlk hP hD hS h (Nat.le_of_ble_eq_true rfl) (Nat.le_of_ble_eq_true rfl) dX3_start_78
    ·
      have h := ite_e c1 h
      refine lv_aload_n hx hb dX3_start_10 rfl (lv_at hl 1 rfl) ?_
      refine x_getr (Or.inr fl_X3_54) C hP (by decide) xs_2 rfl dX3_start_11 ?_
      refine lv_iload_n hx hb dX3_start_14 rfl (lv_at hl 2 rfl) ?_
      refine y_aald (t := 69) C hP (by decide) xs_18 dX3_start_15 h (fun q5 q5l q5h h => ?_)
      refine lv_astore_n (lv' := [(3, .ref (a q5)), (0, .ref (a 6)), (1, .ref (a 2)), (2, .int v2)]) hx hb dX3_start_16 rfl hl (by decide) rfl (fun ls hl => ?_)
      refine lv_aload_n hx hb dX3_start_17 rfl (lv_at hl 1 rfl) ?_
      refine x_getr (Or.inl fl_X3_9) C hP (by decide) xs_6 rfl dX3_start_18 ?_
      refine lv_iload_n hx hb dX3_start_21 rfl (lv_at hl 3 rfl) ?_
      refine lv_aload_n hx hb dX3_start_22 rfl (lv_at hl 0 rfl) ?_
      refine x_getv (v := .int (g q5 6)) (Or.inr fl_X3_58) C hP (by omega) (xs_les (by omega) (by omega)) rfl dX3_start_23 ?_
      refine y_ast C hP hD hS (by decide) xs_25 dX3_start_26 h (fun g6 H locs h hP hD hS => ?_)
      refine lv_aload_n hx hb dX3_start_27 rfl (lv_at hl 1 rfl) ?_
      refine x_getr (Or.inl fl_X3_15) C hP (by decide) xs_6 rfl dX3_start_28 ?_
      refine lv_iload_n hx hb dX3_start_31 rfl (lv_at hl 3 rfl) ?_
      refine lv_aload_n hx hb dX3_start_32 rfl (lv_at hl 0 rfl) ?_
      refine x_getv (v := .int (g6 q5 13)) (Or.inr fl_X3_63) C hP (by omega) (xs_les (by omega) (by omega)) rfl dX3_start_33 ?_
      refine y_ast C hP hD hS (by decide) xs_26 dX3_start_36 h (fun g7 H locs h hP hD hS => ?_)
      refine lv_aload_n hx hb dX3_start_37 rfl (lv_at hl 1 rfl) ?_
      refine x_getr (Or.inl fl_X3_18) C hP (by decide) xs_6 rfl dX3_start_38 ?_
      refine lv_iload_n hx hb dX3_start_41 rfl (lv_at hl 3 rfl) ?_
      refine lv_aload_n hx hb dX3_start_42 rfl (lv_at hl 0 rfl) ?_
      refine x_getv (v := .int (g7 q5 7)) (Or.inr fl_X3_66) C hP (by omega) (xs_les (by omega) (by omega)) rfl dX3_start_43 ?_
      refine y_ast C hP hD hS (by decide) xs_27 dX3_start_46 h (fun g8 H locs h hP hD hS => ?_)
      refine lv_aload_n hx hb dX3_start_47 rfl (lv_at hl 1 rfl) ?_
      refine x_getr (Or.inl fl_X3_21) C hP (by decide) xs_6 rfl dX3_start_48 ?_
      refine lv_iload_n hx hb dX3_start_51 rfl (lv_at hl 3 rfl) ?_
      refine lv_aload_n hx hb dX3_start_52 rfl (lv_at hl 0 rfl) ?_
      refine x_getv (v := .int (g8 q5 11)) (Or.inr fl_X3_69) C hP (by omega) (xs_les (by omega) (by omega)) rfl dX3_start_53 ?_
      refine y_ast C hP hD hS (by decide) xs_28 dX3_start_56 h (fun g9 H locs h hP hD hS => ?_)
      refine lv_iinc (v := (v2 + 1)) (lv' := [(2, .int (v2 + 1)), (3, .ref (a q5)), (0, .ref (a 6)), (1, .ref (a 2))]) hx hb dX3_start_57 hl (k := 3) rfl rfl (by decide) rfl (fun ls hl => ?_)
      refine lv_goto (tgt := 2) hx hb dX3_start_60 (by decide) ?_
      exact ih2 ((v2 + 1), g9, L) h H locs ls hP hD hS (lv_sub hl [2, 3, 0] rfl)
  exact lp2 trivial fu (0, g, L) h H locs ls hP hD hS (lv_sub hl [1, 2, 0] rfl)
def fX11_house_0_p12 (fu : Nat) (g : Nat → Nat → Int32) (L : Nat → Nat → Int64) : Option ((Except String Int32) × zS) :=
  some (.error "java/lang/IllegalArgumentException", (g, L))
def fX11_house_0 (fu : Nat) (p1 : Int32) (g : Nat → Nat → Int32) (L : Nat → Nat → Int64) : Option ((Except String Int32) × zS) :=
  if p1 < 0 then fX11_house_0_p12 fu g L
  else if p1 ≤ (g 0 13) then sti g 0 13 0 (fun g3 =>
  cb (fX6_read_5_2 fu p1 g3 L) (fun x4 g5 L6 =>
  sti g5 0 14 (g5 5 8) (fun g8 =>
  if (g8 5 7) = 0 then swp g8 L6 (fun g10 L11 =>
  cb (fX3_start_6_1 fu g10 L11) (fun x12 g13 L14 =>
  sti g13 0 15 0 (fun g16 =>
  sti g16 0 16 0 (fun g17 =>
  some (.ok 0, (g17, L14))))))
  else ck 0 3 (
  ck 0 3 (sti g8 15 (Int32.toNatClampNeg 0) ((g8 15 (Int32.toNatClampNeg 0)) + 1) (fun g18 =>
  some (.ok (g18 5 7), (g18, L6))))))))
  else fX11_house_0_p12 fu g L
set_option maxHeartbeats 4000000 in
set_option maxRecDepth 100000 in
theorem rX11_house_0 (l : Launch) (hst : l.stackTraces = false) (G : kG) (sz : Nat) (b : Nat) (a : Nat → Nat) (fu : Nat) (g : Nat → Nat → Int32) (L : Nat → Nat → Int64) (p1 : Int32) (res : Except String Int32) (s9 : zS) (h : fX11_house_0 fu p1 g L = some (res, s9)) : kMX l yX11_house cX11_house 3 (some .int) { frames := 64, cells := 1, slots := 6, locals := 1392 } G [.ref (a 0), .int p1] (zw G (XS b) 105 a g L) sz (kQi G (S := Nat × (Nat → Nat)) (fun r' u => res = .ok r' ∧ u.2 0 = a 0) (fun u => zw G (XS u.1) 105 u.2 s9.1 s9.2)) (kXC G (S := Unit) (fun E _ => res = .error E) (fun _ => zw G (XS b) 105 a s9.1 s9.2)) := by
  refine kMX.of (by decide) (Nat.le_of_ble_eq_true rfl) ?_
  intro p e s m below meth c A ls H C hr hlk hno hP hD hS hl
  have C : kC G p s m c cX11_house 3 RX11 A := C
  have hx := C.1
  have hb := C.2.1
  have hl : lv_has ls 3 [(0, .ref (a 0)), (1, .int p1)] := hl
  obtain ⟨locs, hlocs⟩ : ∃ q : List Loc, q = [] := ⟨_, rfl⟩
  rw [← hlocs] at hS
  rw [← hlocs]
  unfold fX11_house_0 at h
  refine lv_iload_n hx hb dX11_house_0 rfl (lv_at hl 1 rfl) ?_
  have J12 : ∀ (g : Nat → Nat → Int32) (L : Nat → Nat → Int64) (H : Heap) (locs : List Loc) (ls : Array Slot), fX11_house_0_p12 fu g L = some (res, s9) → va_P G.1 vwCl (zw G (XS b) 105 a g L) H → va_D A (zw G (XS b) 105 a g L) → va_S A s.heap H locs → lv_has ls 3 [] → W p l e { frames := 64, cells := 1, slots := 6, locals := 1392 } s m [.ref (a 0), .int p1].toArray below meth c H locs 0 0 (vx_MQ below ((kQi G (S := Nat × (Nat → Nat)) (fun r' u => res = .ok r' ∧ u.2 0 = a 0) (fun u => zw G (XS u.1) 105 u.2 s9.1 s9.2)) A) ((kXC G (S := Unit) (fun E _ => res = .error E) (fun _ => zw G (XS b) 105 a s9.1 s9.2)) A) [.ref (a 0), .int p1].toArray s 1 6 A) (F0 m 12 ls []) := by
    intro g L H locs ls h hP hD hS hl
    unfold fX11_house_0_p12 at h
    exact y_throw hst ⟨by decide +kernel, by decide +kernel⟩ th_X11_105_107 hno hlk C hl.1 hP hD hS dX11_house_12 dX11_house_15 dX11_house_16 dX11_house_19 (Nat.lt_of_lt_of_le (by decide) (Nat.le_of_ble_eq_true rfl : 6 ≤ _)) (Nat.le_of_ble_eq_true rfl) ⟨(Nat.le_of_ble_eq_true rfl), (Nat.le_of_ble_eq_true rfl)⟩ h (Nat.le_of_ble_eq_true rfl) (Nat.le_of_ble_eq_true rfl)
  refine lv_if_lt (x := p1) (tgt := 12) hx hb dX11_house_1 (by decide) (fun c1 => ?_) (fun c1 => ?_)
  ·
    have h := ite_t c1 h
    exact J12 g L H locs ls h hP hD hS (lv_sub hl [] rfl)
  ·
    have h := ite_e c1 h
    refine lv_iload_n hx hb dX11_house_4 rfl (lv_at hl 1 rfl) ?_
    refine lv_aload_n hx hb dX11_house_5 rfl (lv_at hl 0 rfl) ?_
    refine x_getv (v := .int (g 0 13)) (Or.inl fl_X11_87) C hP (by decide) xs_0 rfl dX11_house_6 ?_
    refine lv_icmp_le (x := p1) (y := (g 0 13)) (tgt := 20) hx hb dX11_house_9 (by decide) (fun c2 => ?_) (fun c2 => ?_)
    ·
      have h := ite_t c2 h
      refine lv_aload_n hx hb dX11_house_20 rfl (lv_at hl 0 rfl) ?_
      refine lv_iconst (v := 0) hx hb dX11_house_21 (by decide) ?_
      refine y_puti (Or.inl fl_X11_87) ft_X11_13 C hP hD hS (by decide) xs_0 rfl rfl rfl dX11_house_22 h (fun g3 H locs h hP hD hS => ?_)
      refine lv_aload_n hx hb dX11_house_25 rfl (lv_at hl 0 rfl) ?_
      refine x_getr (Or.inl fl_X11_34) C hP (by decide) xs_0 rfl dX11_house_26 ?_
      refine lv_iload_n hx hb dX11_house_29 rfl (lv_at hl 1 rfl) ?_
      refine lv_aload_n hx hb dX11_house_30 rfl (lv_at hl 0 rfl) ?_
      refine x_getr (Or.inl fl_X11_26) C hP (by decide) xs_0 rfl dX11_house_31 ?_
      obtain ⟨z_, g5, L6, hf7, h⟩ := cb_some h
      refine x_callNv (rest := []) li_X11_108 C (rX6_read_5_2 l G H.size b a fu g3 L p1 z_ (g5, L6) hf7) (kR rfl) hP hD hS 5 6 rfl (zat (by decide) xs_5) rfl hl.1 rfl (Nat.le_of_ble_eq_true rfl) dX11_house_34 (fun u_ H locs e_ hP hD hS => ?_)
      have hP : va_P G.1 vwCl (zw G (XS 2) 105 a g5 L6) H := hP
      have hD : va_D A (zw G (XS 2) 105 a g5 L6) := hD
      refine lv_aload_n hx hb dX11_house_37 rfl (lv_at hl 0 rfl) ?_
      refine lv_aload_n hx hb dX11_house_38 rfl (lv_at hl 0 rfl) ?_
      refine x_getr (Or.inl fl_X11_34) C hP (by decide) xs_0 rfl dX11_house_39 ?_
      refine x_getv (v := .int (g5 5 8)) (Or.inr fl_X11_112) C hP (by decide) xs_5 rfl dX11_house_42 ?_
      refine y_puti (Or.inl fl_X11_91) ft_X11_14 C hP hD hS (by decide) xs_0 rfl rfl rfl dX11_house_45 h (fun g8 H locs h hP hD hS => ?_)
      refine lv_aload_n hx hb dX11_house_48 rfl (lv_at hl 0 rfl) ?_
      refine x_getr (Or.inl fl_X11_34) C hP (by decide) xs_0 rfl dX11_house_49 ?_
      refine x_getv (v := .int (g8 5 7)) (Or.inr fl_X11_113) C hP (by decide) xs_5 rfl dX11_house_52 ?_
      refine lv_if_eq (x := (g8 5 7)) (tgt := 76) hx hb dX11_house_55 (by decide) (fun c9 => ?_) (fun c9 => ?_)
      ·
        have h := ite_t c9 h
        refine lv_aload_n hx hb dX11_house_76 rfl (lv_at hl 0 rfl) ?_
        refine x_getr (Or.inl fl_X11_26) C hP (by decide) xs_0 rfl dX11_house_77 ?_
        refine lv_astore_n (lv' := [(2, .ref (a 2)), (0, .ref (a 0)), (1, .int p1)]) hx hb dX11_house_80 rfl hl (by decide) rfl (fun ls hl => ?_)
        refine lv_aload_n hx hb dX11_house_81 rfl (lv_at hl 1 rfl) ?_
        refine lv_aload_n hx hb dX11_house_82 rfl (lv_at hl 1 rfl) ?_
        refine x_getr (Or.inl fl_X11_22) C hP (by decide) xs_0 rfl dX11_house_83 ?_
        rw [xg_start] at hP hD
        refine x_putr (Z' := XG 2 1 1 1) (t := 1) xg_b0 xg_b0 (fun _ h => xg_n0 h) rfl (fun _ h => xg_0n (Or.inr rfl) (Or.inl h)) (by decide) (Or.inl fl_X11_26) ft_X11_4 C hP hD hS rfl rfl dX11_house_86 (fun H locs hP hD hS => ?_)
        refine lv_aload_n hx hb dX11_house_89 rfl (lv_at hl 1 rfl) ?_
        refine lv_aload_n hx hb dX11_house_90 rfl (lv_at hl 0 rfl) ?_
        refine x_putr (Z' := XG 2 2 1 1) (t := 2) xg_b0 xg_b0 (fun _ h => xg_n0 h) rfl (fun _ h => xg_0n (Or.inl h) (Or.inr rfl)) (by decide) (Or.inl fl_X11_22) ft_X11_3 C hP hD hS rfl rfl dX11_house_91 (fun H locs hP hD hS => ?_)
        refine lv_aload_n hx hb dX11_house_94 rfl (lv_at hl 1 rfl) ?_
        refine x_getr (Or.inl fl_X11_53) C hP (by decide) xg_b0 rfl dX11_house_95 ?_
        refine lv_aload_n hx hb dX11_house_98 rfl (lv_at hl 0 rfl) ?_
        refine x_putr (Z' := XG 2 2 1 2) (t := 2) xg_b8 xg_b8 (fun _ h => xg_n8 h) rfl (fun _ h => xg_8n h) (by decide) (Or.inr fl_X11_116) ft_X1_7 C hP hD hS rfl rfl dX11_house_99 (fun H locs hP hD hS => ?_)
        have hP := zsw_P hP
        have hD := zsw_D hD
        obtain ⟨a2, ea⟩ : ∃ q : Nat → Nat, q = fun k => a (sg k) := ⟨_, rfl⟩
        have e0 : a 0 = a2 0 := by rw [ea]; rfl
        have e2 : a 2 = a2 1 := by rw [ea]; rfl
        rw [← ea] at hP hD
        obtain ⟨g10, L11, eg, eL, h⟩ := swp_some h
        rw [eg, eL] at hP hD
        rw [e0, e2] at hl
        refine lv_aload_n hx hb dX11_house_102 rfl (lv_at hl 1 rfl) ?_
        refine x_getr (Or.inl fl_X11_41) C hP (by decide) xs_0 rfl dX11_house_103 ?_
        refine lv_aload_n hx hb dX11_house_106 rfl (lv_at hl 0 rfl) ?_
        obtain ⟨z_, g13, L14, hf15, h⟩ := cb_some h
        refine x_callNv (rest := []) li_X11_117 C (rX3_start_6_1 l G H.size 1 a2 fu g10 L11 z_ (g13, L14) hf15) (kR rfl) hP hD hS 6 3 rfl (zat (by decide) xs_6) rfl hl.1 rfl (Nat.le_of_ble_eq_true rfl) dX11_house_107 (fun u_ H locs e_ hP hD hS => ?_)
        have hP : va_P G.1 vwCl (zw G (XS 1) 105 a2 g13 L14) H := hP
        have hD : va_D A (zw G (XS 1) 105 a2 g13 L14) := hD
        refine lv_aload_n hx hb dX11_house_110 rfl (lv_at hl 1 rfl) ?_
        refine lv_iconst (v := 0) hx hb dX11_house_111 (by decide) ?_
        refine y_puti (Or.inl fl_X11_94) ft_X11_15 C hP hD hS (by decide) xs_0 rfl rfl rfl dX11_house_112 h (fun g16 H locs h hP hD hS => ?_)
        refine lv_aload_n hx hb dX11_house_115 rfl (lv_at hl 1 rfl) ?_
        refine lv_iconst (v := 0) hx hb dX11_house_116 (by decide) ?_
        refine y_puti (Or.inl fl_X11_98) ft_X11_16 C hP hD hS (by decide) xs_0 rfl rfl rfl dX11_house_117 h (fun g17 H locs h hP hD hS => ?_)
        refine lv_iconst (v := 0) hx hb dX11_house_120 (by decide) ?_
        cases h
        exact vx_ret (x_iret C hr hlk hP hD hS ((1, a2) : Nat × (Nat → Nat)) rfl ⟨rfl, e0.symm⟩ (Nat.le_of_ble_eq_true rfl) (Nat.le_of_ble_eq_true rfl) dX11_house_121)
      ·
        have h := ite_e c9 h
        refine lv_aload_n hx hb dX11_house_58 rfl (lv_at hl 0 rfl) ?_
        refine x_getr (Or.inl fl_X11_13) C hP (by decide) xs_0 rfl dX11_house_59 ?_
        refine lv_iconst (v := 0) hx hb dX11_house_62 (by decide) ?_
        refine lv_dup2_11 hx hb dX11_house_63 rfl rfl ?_
        refine y_ald C hP (by decide) xs_15 dX11_house_64 h (fun h => ?_)
        refine lv_iconst (v := 1) hx hb dX11_house_65 (by decide) ?_
        refine lv_iadd hx hb dX11_house_66 ?_
        refine y_ast C hP hD hS (by decide) xs_15 dX11_house_67 h (fun g18 H locs h hP hD hS => ?_)
        refine lv_aload_n hx hb dX11_house_68 rfl (lv_at hl 0 rfl) ?_
        refine x_getr (Or.inl fl_X11_34) C hP (by decide) xs_0 rfl dX11_house_69 ?_
        refine x_getv (v := .int (g18 5 7)) (Or.inr fl_X11_113) C hP (by decide) xs_5 rfl dX11_house_72 ?_
        cases h
        exact vx_ret (x_iret C hr hlk hP hD hS ((2, a) : Nat × (Nat → Nat)) rfl ⟨rfl, rfl⟩ (Nat.le_of_ble_eq_true rfl) (Nat.le_of_ble_eq_true rfl) dX11_house_75)
    ·
      have h := ite_e c2 h
      exact J12 g L H locs ls h hP hD hS (lv_sub hl [] rfl)
