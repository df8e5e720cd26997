theorem tw_19 : (Jvm.Cond.initialized "java/lang/String") ∈ lw_tbl := tk_1 (List.mem_of_getElem? (i := 19) rfl)
theorem tw_20 : (Jvm.Cond.initialized "java/lang/StringLatin1") ∈ lw_tbl := tk_1 (List.mem_of_getElem? (i := 20) rfl)
theorem tw_21 : (Jvm.Cond.initialized "jdk/internal/util/Preconditions") ∈ lw_tbl := tk_1 (List.mem_of_getElem? (i := 21) rfl)
theorem tw_828 : (Jvm.Cond.methodLink "MarshBells$Parser" (69 : Nat) ({ cls := "java/lang/String", name := "length", desc := "()I" } : Jvm.MethodName)) ∈ lw_tbl := tk_4 (List.mem_of_getElem? (i := 108) rfl)
theorem tw_829 : (Jvm.Cond.instanceMethod ({ cls := "java/lang/String", name := "length", desc := "()I" } : Jvm.MethodName)) ∈ lw_tbl := tk_4 (List.mem_of_getElem? (i := 109) rfl)
theorem tw_830 : (Jvm.Cond.selects "java/lang/String" ({ cls := "java/lang/String", name := "length", desc := "()I" } : Jvm.MethodName) ({ cls := "java/lang/String", name := "length", desc := "()I" } : Jvm.MethodName)) ∈ lw_tbl := tk_4 (List.mem_of_getElem? (i := 110) rfl)
theorem tw_831 : (Jvm.Cond.code ({ cls := "java/lang/String", name := "length", desc := "()I" } : Jvm.MethodName) prog_23_method_54_code (1 : Nat) (Option.some Jvm.ClassFile.FieldType.int)) ∈ lw_tbl := tk_4 (List.mem_of_getElem? (i := 111) rfl)
theorem tw_832 : (Jvm.Cond.methodLink "java/lang/String" (335 : Nat) ({ cls := "java/lang/String", name := "coder", desc := "()B" } : Jvm.MethodName)) ∈ lw_tbl := tk_4 (List.mem_of_getElem? (i := 112) rfl)
theorem tw_833 : (Jvm.Cond.instanceMethod ({ cls := "java/lang/String", name := "coder", desc := "()B" } : Jvm.MethodName)) ∈ lw_tbl := tk_4 (List.mem_of_getElem? (i := 113) rfl)
theorem tw_834 : (Jvm.Cond.selects "java/lang/String" ({ cls := "java/lang/String", name := "coder", desc := "()B" } : Jvm.MethodName) ({ cls := "java/lang/String", name := "coder", desc := "()B" } : Jvm.MethodName)) ∈ lw_tbl := tk_4 (List.mem_of_getElem? (i := 114) rfl)
theorem tw_835 : (Jvm.Cond.code ({ cls := "java/lang/String", name := "coder", desc := "()B" } : Jvm.MethodName) prog_23_method_152_code (1 : Nat) (Option.some Jvm.ClassFile.FieldType.byte)) ∈ lw_tbl := tk_4 (List.mem_of_getElem? (i := 115) rfl)
theorem tw_836 : (Jvm.Cond.fieldLink "java/lang/String" (38 : Nat) "java/lang/String" "COMPACT_STRINGS" "Z") ∈ lw_tbl := tk_4 (List.mem_of_getElem? (i := 116) rfl)
theorem tw_838 : (Jvm.Cond.methodLink "MarshBells$Parser" (74 : Nat) ({ cls := "java/lang/String", name := "charAt", desc := "(I)C" } : Jvm.MethodName)) ∈ lw_tbl := tk_4 (List.mem_of_getElem? (i := 118) rfl)
theorem tw_839 : (Jvm.Cond.instanceMethod ({ cls := "java/lang/String", name := "charAt", desc := "(I)C" } : Jvm.MethodName)) ∈ lw_tbl := tk_4 (List.mem_of_getElem? (i := 119) rfl)
theorem tw_840 : (Jvm.Cond.selects "java/lang/String" ({ cls := "java/lang/String", name := "charAt", desc := "(I)C" } : Jvm.MethodName) ({ cls := "java/lang/String", name := "charAt", desc := "(I)C" } : Jvm.MethodName)) ∈ lw_tbl := tk_4 (List.mem_of_getElem? (i := 120) rfl)
theorem tw_841 : (Jvm.Cond.code ({ cls := "java/lang/String", name := "charAt", desc := "(I)C" } : Jvm.MethodName) prog_23_method_56_code (2 : Nat) (Option.some Jvm.ClassFile.FieldType.char)) ∈ lw_tbl := tk_4 (List.mem_of_getElem? (i := 121) rfl)
theorem tw_842 : (Jvm.Cond.methodLink "java/lang/String" (492 : Nat) ({ cls := "java/lang/String", name := "isLatin1", desc := "()Z" } : Jvm.MethodName)) ∈ lw_tbl := tk_4 (List.mem_of_getElem? (i := 122) rfl)
theorem tw_843 : (Jvm.Cond.instanceMethod ({ cls := "java/lang/String", name := "isLatin1", desc := "()Z" } : Jvm.MethodName)) ∈ lw_tbl := tk_4 (List.mem_of_getElem? (i := 123) rfl)
theorem tw_844 : (Jvm.Cond.selects "java/lang/String" ({ cls := "java/lang/String", name := "isLatin1", desc := "()Z" } : Jvm.MethodName) ({ cls := "java/lang/String", name := "isLatin1", desc := "()Z" } : Jvm.MethodName)) ∈ lw_tbl := tk_4 (List.mem_of_getElem? (i := 124) rfl)
theorem tw_845 : (Jvm.Cond.code ({ cls := "java/lang/String", name := "isLatin1", desc := "()Z" } : Jvm.MethodName) prog_23_method_154_code (1 : Nat) (Option.some Jvm.ClassFile.FieldType.boolean)) ∈ lw_tbl := tk_4 (List.mem_of_getElem? (i := 125) rfl)
theorem tw_846 : (Jvm.Cond.methodLink "java/lang/String" (495 : Nat) ({ cls := "java/lang/StringLatin1", name := "charAt", desc := "([BI)C" } : Jvm.MethodName)) ∈ lw_tbl := tk_4 (List.mem_of_getElem? (i := 126) rfl)
theorem tw_847 : (Jvm.Cond.static ({ cls := "java/lang/StringLatin1", name := "charAt", desc := "([BI)C" } : Jvm.MethodName)) ∈ lw_tbl := tk_4 (List.mem_of_getElem? (i := 127) rfl)
theorem tw_848 : (Jvm.Cond.code ({ cls := "java/lang/StringLatin1", name := "charAt", desc := "([BI)C" } : Jvm.MethodName) prog_24_method_2_code (2 : Nat) (Option.some Jvm.ClassFile.FieldType.char)) ∈ lw_tbl := tk_4 (List.mem_of_getElem? (i := 128) rfl)
theorem tw_849 : (Jvm.Cond.methodLink "java/lang/StringLatin1" (9 : Nat) ({ cls := "java/lang/String", name := "checkIndex", desc := "(II)V" } : Jvm.MethodName)) ∈ lw_tbl := tk_4 (List.mem_of_getElem? (i := 129) rfl)
theorem tw_850 : (Jvm.Cond.static ({ cls := "java/lang/String", name := "checkIndex", desc := "(II)V" } : Jvm.MethodName)) ∈ lw_tbl := tk_4 (List.mem_of_getElem? (i := 130) rfl)
theorem tw_851 : (Jvm.Cond.code ({ cls := "java/lang/String", name := "checkIndex", desc := "(II)V" } : Jvm.MethodName) prog_23_method_155_code (2 : Nat) (Option.none : Option Jvm.ClassFile.FieldType)) ∈ lw_tbl := tk_4 (List.mem_of_getElem? (i := 131) rfl)
theorem tw_852 : (Jvm.Cond.fieldLink "java/lang/String" (1053 : Nat) "jdk/internal/util/Preconditions" "SIOOBE_FORMATTER" "Ljava/util/function/BiFunction;") ∈ lw_tbl := tk_4 (List.mem_of_getElem? (i := 132) rfl)
theorem tw_854 : (Jvm.Cond.methodLink "java/lang/String" (1059 : Nat) ({ cls := "jdk/internal/util/Preconditions", name := "checkIndex", desc := "(IILjava/util/function/BiFunction;)I" } : Jvm.MethodName)) ∈ lw_tbl := tk_4 (List.mem_of_getElem? (i := 134) rfl)
theorem tw_855 : (Jvm.Cond.static ({ cls := "jdk/internal/util/Preconditions", name := "checkIndex", desc := "(IILjava/util/function/BiFunction;)I" } : Jvm.MethodName)) ∈ lw_tbl := tk_4 (List.mem_of_getElem? (i := 135) rfl)
theorem tw_856 : (Jvm.Cond.code ({ cls := "jdk/internal/util/Preconditions", name := "checkIndex", desc := "(IILjava/util/function/BiFunction;)I" } : Jvm.MethodName) prog_31_method_11_code (3 : Nat) (Option.some Jvm.ClassFile.FieldType.int)) ∈ lw_tbl := tk_4 (List.mem_of_getElem? (i := 136) rfl)
theorem tw_2110 : (Jvm.Cond.fieldLink "java/lang/String" (9 : Nat) "java/lang/String" "value" "[B") ∈ lw_tbl := tk_9 (List.mem_of_getElem? (i := 190) rfl)
theorem tw_2111 : (Jvm.Cond.fieldLink "java/lang/String" (15 : Nat) "java/lang/String" "coder" "B") ∈ lw_tbl := tk_9 (List.mem_of_getElem? (i := 191) rfl)
theorem dSl_0 : decode prog_23_method_54_code 0 = .ok (.aload_n 0, 1) := by decide +kernel
theorem dSl_1 : decode prog_23_method_54_code 1 = .ok (.getfield 9, 3) := by decide +kernel
theorem dSl_4 : decode prog_23_method_54_code 4 = .ok (.arraylength, 1) := by decide +kernel
theorem dSl_5 : decode prog_23_method_54_code 5 = .ok (.aload_n 0, 1) := by decide +kernel
theorem dSl_6 : decode prog_23_method_54_code 6 = .ok (.invokevirtual 335, 3) := by decide +kernel
theorem dSl_9 : decode prog_23_method_54_code 9 = .ok (.ishr, 1) := by decide +kernel
theorem dSl_10 : decode prog_23_method_54_code 10 = .ok (.ireturn, 1) := by decide +kernel
theorem dSk_0 : decode prog_23_method_152_code 0 = .ok (.getstatic 38, 3) := by decide +kernel
theorem dSk_3 : decode prog_23_method_152_code 3 = .ok (.ifCond .eq 10, 3) := by decide +kernel
theorem dSk_6 : decode prog_23_method_152_code 6 = .ok (.aload_n 0, 1) := by decide +kernel
theorem dSk_7 : decode prog_23_method_152_code 7 = .ok (.getfield 15, 3) := by decide +kernel
theorem dSk_10 : decode prog_23_method_152_code 10 = .ok (.goto 4, 3) := by decide +kernel
theorem dSk_14 : decode prog_23_method_152_code 14 = .ok (.ireturn, 1) := by decide +kernel
theorem dSi_0 : decode prog_23_method_154_code 0 = .ok (.getstatic 38, 3) := by decide +kernel
theorem dSi_3 : decode prog_23_method_154_code 3 = .ok (.ifCond .eq 14, 3) := by decide +kernel
theorem dSi_6 : decode prog_23_method_154_code 6 = .ok (.aload_n 0, 1) := by decide +kernel
theorem dSi_7 : decode prog_23_method_154_code 7 = .ok (.getfield 15, 3) := by decide +kernel
theorem dSi_10 : decode prog_23_method_154_code 10 = .ok (.ifCond .ne 7, 3) := by decide +kernel
theorem dSi_13 : decode prog_23_method_154_code 13 = .ok (.iconst 1, 1) := by decide +kernel
theorem dSi_14 : decode prog_23_method_154_code 14 = .ok (.goto 4, 3) := by decide +kernel
theorem dSi_18 : decode prog_23_method_154_code 18 = .ok (.ireturn, 1) := by decide +kernel
theorem dSc_0 : decode prog_23_method_56_code 0 = .ok (.aload_n 0, 1) := by decide +kernel
theorem dSc_1 : decode prog_23_method_56_code 1 = .ok (.invokevirtual 492, 3) := by decide +kernel
theorem dSc_4 : decode prog_23_method_56_code 4 = .ok (.ifCond .eq 12, 3) := by decide +kernel
theorem dSc_7 : decode prog_23_method_56_code 7 = .ok (.aload_n 0, 1) := by decide +kernel
theorem dSc_8 : decode prog_23_method_56_code 8 = .ok (.getfield 9, 3) := by decide +kernel
theorem dSc_11 : decode prog_23_method_56_code 11 = .ok (.iload_n 1, 1) := by decide +kernel
theorem dSc_12 : decode prog_23_method_56_code 12 = .ok (.invokestatic 495, 3) := by decide +kernel
theorem dSc_15 : decode prog_23_method_56_code 15 = .ok (.ireturn, 1) := by decide +kernel
theorem dLc_0 : decode prog_24_method_2_code 0 = .ok (.iload_n 1, 1) := by decide +kernel
theorem dLc_1 : decode prog_24_method_2_code 1 = .ok (.aload_n 0, 1) := by decide +kernel
theorem dLc_2 : decode prog_24_method_2_code 2 = .ok (.arraylength, 1) := by decide +kernel
theorem dLc_3 : decode prog_24_method_2_code 3 = .ok (.invokestatic 9, 3) := by decide +kernel
theorem dLc_6 : decode prog_24_method_2_code 6 = .ok (.aload_n 0, 1) := by decide +kernel
theorem dLc_7 : decode prog_24_method_2_code 7 = .ok (.iload_n 1, 1) := by decide +kernel
theorem dLc_8 : decode prog_24_method_2_code 8 = .ok (.baload, 1) := by decide +kernel
theorem dLc_9 : decode prog_24_method_2_code 9 = .ok (.sipush 255, 3) := by decide +kernel
theorem dLc_12 : decode prog_24_method_2_code 12 = .ok (.iand, 1) := by decide +kernel
theorem dLc_13 : decode prog_24_method_2_code 13 = .ok (.i2c, 1) := by decide +kernel
theorem dLc_14 : decode prog_24_method_2_code 14 = .ok (.ireturn, 1) := by decide +kernel
theorem dSx_0 : decode prog_23_method_155_code 0 = .ok (.iload_n 0, 1) := by decide +kernel
theorem dSx_1 : decode prog_23_method_155_code 1 = .ok (.iload_n 1, 1) := by decide +kernel
theorem dSx_2 : decode prog_23_method_155_code 2 = .ok (.getstatic 1053, 3) := by decide +kernel
theorem dSx_5 : decode prog_23_method_155_code 5 = .ok (.invokestatic 1059, 3) := by decide +kernel
theorem dSx_8 : decode prog_23_method_155_code 8 = .ok (.pop, 1) := by decide +kernel
theorem dSx_9 : decode prog_23_method_155_code 9 = .ok (.return_, 1) := by decide +kernel
theorem dPx_0 : decode prog_31_method_11_code 0 = .ok (.iload_n 0, 1) := by decide +kernel
theorem dPx_1 : decode prog_31_method_11_code 1 = .ok (.ifCond .lt 8, 3) := by decide +kernel
theorem dPx_4 : decode prog_31_method_11_code 4 = .ok (.iload_n 0, 1) := by decide +kernel
theorem dPx_5 : decode prog_31_method_11_code 5 = .ok (.iload_n 1, 1) := by decide +kernel
theorem dPx_6 : decode prog_31_method_11_code 6 = .ok (.if_icmp .lt 10, 3) := by decide +kernel
theorem dPx_16 : decode prog_31_method_11_code 16 = .ok (.iload_n 0, 1) := by decide +kernel
theorem dPx_17 : decode prog_31_method_11_code 17 = .ok (.ireturn, 1) := by decide +kernel
theorem ks_recv {adK adV : Nat → Nat} {A : Nat → Prop} {s : State} {H : Heap} {locs : List Loc} {i : Nat} (hE : kSS adK adV A s s.heap) (hi : i < 17) (hS : va_S A s.heap H locs) : ∃ cell : Cell, H[adK i]? = some cell ∧ cell.vm.isStatics = false ∧ s.vm.findClass "java/lang/String" = some cell.cls := vk_recv (i := 0) (hE i hi) (by decide) hS
section SR
variable {p : Program} {l : Launch} {e : Env} {R : Room} {s : State} {m : MethodId} {args : Array Value} {below : List Frame} {meth : Method} {c : Code} {H : Heap} {locs : List Loc} {cells slots : Nat} {Q : State → Prop} {cc : ByteArray} {nL pc : Nat} {ls : Array Slot} {rest st0 : List Value} {G : kG} {own : String} {A : Nat → Prop} {ws : va_W}
theorem k_callRi {S : Type} {post : Int32 → S → Prop} {w : S → va_W} {index n maxL : Nat} {y : MethodName} {bytes : ByteArray} {rm : Room} {b : Nat} {As : List Value} {wc wr : va_W} {Cn : String} {ret : Option FieldType} (L : kLV own index Cn y bytes maxL ret n) (C : kC G p s m c cc nL own A) (hM : kM l y bytes maxL ret rm G (.ref b :: As) wc H.size (kQi G post w)) (hR : kLR rm R maxL cells slots) (hP : va_P G.1 vwCl ws H) (hD : va_D A ws) (hS : va_S A s.heap H locs) (isC isR : List Nat) (hC : isC.map (fun i => ws[i]?) = wc.map some) (hRr : isR.map (fun i => ws[i]?) = wr.map some) (hn0 : va_nd isC = true) (hn1 : va_nd isR = true) (hdis : ∀ i ∈ isR, i ∉ isC) (hrc : ∃ cell : Cell, H[b]? = some cell ∧ cell.vm.isStatics = false ∧ s.vm.findClass Cn = some cell.cls) (hn : As.length = n) (hsz : ls.size = nL) (hst : st0 = As.reverse ++ .ref b :: rest) (hW : (rest.map fun v => v.category).sum ≤ 8) (hdg : decode cc pc = .ok (.invokevirtual index, 3))
    (kk : ∀ (r : Int32) (u : S) (H1 : Heap) (locs1 : List Loc), post r u → va_P G.1 vwCl (wr ++ w u) H1 → va_D A (wr ++ w u) → va_S A s.heap H1 locs1 → W p l e R s m args below meth c H1 locs1 (cells + rm.cells) (slots + rm.slots) Q (F0 m (pc + 3) ls (.int r :: rest))) : W p l e R s m args below meth c H locs cells slots Q (F0 m pc ls st0) := by
  obtain ⟨hPc, hFc, hpre⟩ := k_cut C hP hD hS isC hC hn0 (.ref b :: As)
  obtain ⟨hx, hb, hml, hown, hE, hXx, hA⟩ := C
  obtain ⟨w1, w2, w3, w4, w5, w6⟩ := L
  refine va_calli (a := (.ref b :: As).toArray) (va_runV (As := As) (rest := rest) (Ts := []) ⟨hx, hb, hml, hown, fun _ h => nomatch h⟩ hM ⟨⟨rfl, rfl, hR.1, hR.2.1, (fun w hw a' U hW => by rw [List.mem_singleton.mp hw]; exact (hE.warm hW).w w4 rfl), List.mem_cons_self, hE.w w4 rfl, hE.w w5 rfl, ⟨w6.2.1, w6.2.2.1⟩, (fun sig h => by have h2 := w6.2.2.2; rw [h] at h2; exact (Option.some.inj h2).symm), hE.w w1 rfl⟩, hE.w w2 rfl, hE.w w3 rfl⟩ ⟨kP.blind, hrc, hpre⟩ rfl hn hsz hst (lv_room hW) hdg ⟨hR.2.2.1, hR.2.2.2⟩) hS (fun q _ h => hFc q h) hFc (fun r u t H1 locs1 ht hvm hw hB hz1 hk1 hS1 => ?_)
  obtain ⟨hB1, hB2⟩ := hB
  rw [ht] at hB1
  obtain ⟨hP1, hD1⟩ := va_join hP hD isC isR hC hRr hn1 hdis hk1 hFc hB1 hB2
  exact kk r u H1 locs1 hw hP1 hD1 hS1
theorem k_tret {S : Type} {post : Int32 → S → Prop} {w : S → va_W} {mc ms : Nat} {r : Int32} (C : kC G p s m c cc nL own A) {ty : FieldType} (hr : meth.sig.returnType = some ty) (hlk : meth.locks = false) (hnz : narrow ty (.int r) = .int r) (hP : va_P G.1 vwCl ws H) (hD : va_D A ws) (hS : va_S A s.heap H locs) (u : S) (hpost : post r u) (isO : List Nat) (hO : isO.map (fun i => ws[i]?) = (w u).map some) (hnO : va_nd isO = true) (hc : cells ≤ mc) (hs : slots ≤ ms) (hdg : decode cc pc = .ok (.ireturn, 1)) :
    W p l e R s m args below meth c H locs cells slots (MQ below (kQi G post w A) args s mc ms A) (F0 m pc ls [.int r]) := by
  refine W.widen hc hs ?_
  exact W.zret (v := r) C.1 C.2.1 hr hnz (fun t ht hW => ⟨⟨r, u, rfl, hpost, by rw [ht]; exact hP.sub isO (k_fm hO), hD.sub isO hnO hO⟩, hS.F ht⟩) hS.2.2 hdg (hlocks := hlk)
theorem y_ldcS {i idx : Nat} (C : kC G p s m c cc nL RX6 A) (hi : i < 17) (hix : kSi i = idx) (hdg : decode cc pc = .ok (.ldc idx, 2)) (kk : W p l e R s m args below meth c H locs cells slots Q (F0 m (pc + 2) ls (.ref (G.2.2.2.2.2.1 i) :: rest))) : W p l e R s m args below meth c H locs cells slots Q (F0 m pc ls rest) :=
  va_ldcS C.1 C.2.1 C.2.2.2.1 (hix ▸ C.2.2.2.2.1.2.2.2.2 i hi) hdg kk
end SR
def sch (i j : Nat) : Int32 := (kSb.getD i []).getD j 0
theorem s_all : ∀ i, i < 17 → (Int32.ofNat (kSl.getD i 0)) >>> ((0 : Int32) &&& 31) = Int32.ofNat (kSl.getD i 0) ∧ kSl.getD i 0 < 8 ∧ ∀ j, j < kSl.getD i 0 → (((sch i j) &&& 255).toUInt32 % 65536).toInt32 = sch i j ∧ narrow .char (.int (sch i j)) = .int (sch i j) := by decide +kernel
abbrev ySl : MethodName := ⟨"java/lang/String", "length", "()I"⟩
abbrev ySk : MethodName := ⟨"java/lang/String", "coder", "()B"⟩
abbrev ySi : MethodName := ⟨"java/lang/String", "isLatin1", "()Z"⟩
abbrev ySc : MethodName := ⟨"java/lang/String", "charAt", "(I)C"⟩
abbrev yLc : MethodName := ⟨"java/lang/StringLatin1", "charAt", "([BI)C"⟩
abbrev ySx : MethodName := ⟨"java/lang/String", "checkIndex", "(II)V"⟩
abbrev yPx : MethodName := ⟨"jdk/internal/util/Preconditions", "checkIndex", "(IILjava/util/function/BiFunction;)I"⟩
theorem lSk : kLV "java/lang/String" 335 "java/lang/String" ySk prog_23_method_152_code 1 (some .byte) 0 := ⟨tw_832, tw_833, tw_834, tw_835, tw_19, by decide +kernel⟩
theorem lSi : kLV "java/lang/String" 492 "java/lang/String" ySi prog_23_method_154_code 1 (some .boolean) 0 := ⟨tw_842, tw_843, tw_844, tw_845, tw_19, by decide +kernel⟩
theorem lLc : kLS "java/lang/String" 495 yLc prog_24_method_2_code 2 (some .char) 2 := ⟨tw_846, tw_847, tw_848, tw_20, by decide +kernel⟩
theorem lSx : kLS "java/lang/StringLatin1" 9 ySx prog_23_method_155_code 2 none 2 := ⟨tw_849, tw_850, tw_851, tw_19, by decide +kernel⟩
theorem lPx : kLS "java/lang/String" 1059 yPx prog_31_method_11_code 3 (some .int) 3 := ⟨tw_854, tw_855, tw_856, tw_21, by decide +kernel⟩
theorem lSl : kLV RX6 69 "java/lang/String" ySl prog_23_method_54_code 1 (some .int) 0 := ⟨tw_828, tw_829, tw_830, tw_831, tw_19, by decide +kernel⟩
theorem lSc : kLV RX6 74 "java/lang/String" ySc prog_23_method_56_code 2 (some .char) 1 := ⟨tw_838, tw_839, tw_840, tw_841, tw_19, by decide +kernel⟩
theorem rPx (l : Launch) (G : kG) (sz : Nat) (ws : va_W) (i n : Int32) (v : Value) (hv : v.category = 1) (h1 : ¬ i < 0) (h2 : i < n) : kM l yPx prog_31_method_11_code 3 (some .int) { frames := 6, cells := 0, slots := 0, locals := 110 } G [.int i, .int n, v] ws sz (kQi G (S := Unit) (fun r _ => r = i) (fun _ => ws)) := by
  refine kM.of (by decide) (by simp [lg_sl, hv, show (Value.int i).category = 1 from rfl, show (Value.int n).category = 1 from rfl]) ?_
  intro p e s m below meth c A ls H C hr hlk hnm hP hD hS hl
  have C : kC G p s m c prog_31_method_11_code 3 "jdk/internal/util/Preconditions" A := C
  have hx := C.1
  have hb := C.2.1
  have hXx := C.2.2.2.2.2.1
  have hl : lv_has ls 3 [(0, .int i), (1, .int n), (2, v)] := hl
  refine lv_iload_n hx hb dPx_0 rfl (lv_at hl 0 rfl) ?_
  refine lv_if_lt (x := i) (tgt := 9) hx hb dPx_1 (by decide) (fun c => absurd c h1) (fun c => ?_)
  refine lv_iload_n hx hb dPx_4 rfl (lv_at hl 0 rfl) ?_
  refine lv_iload_n hx hb dPx_5 rfl (lv_at hl 1 rfl) ?_
  refine lv_icmp_lt (x := i) (y := n) (tgt := 16) hx hb dPx_6 (by decide) (fun c => ?_) (fun c => absurd h2 c)
  refine lv_iload_n hx hb dPx_16 rfl (lv_at hl 0 rfl) ?_
  exact k_iret C hr hlk hP hD hS () rfl (List.range ws.length) (z_rg ws) (z_ndr _) (Nat.le_of_ble_eq_true rfl) (Nat.le_of_ble_eq_true rfl) dPx_17
theorem rSx (l : Launch) (G : kG) (sz : Nat) (ws : va_W) (i n : Int32) (h1 : ¬ i < 0) (h2 : i < n) : kM l ySx prog_23_method_155_code 2 none { frames := 7, cells := 0, slots := 0, locals := 132 } G [.int i, .int n] ws sz (kQv G (S := Unit) (fun _ => True) (fun _ => ws)) := by
  refine kM.of (by decide) (Nat.le_of_ble_eq_true rfl) ?_
  intro p e s m below meth c A ls H C hr hlk hnm hP hD hS hl
  have C : kC G p s m c prog_23_method_155_code 2 "java/lang/String" A := C
  have hx := C.1
  have hb := C.2.1
  have hXx := C.2.2.2.2.2.1
  have hl : lv_has ls 2 [(0, .int i), (1, .int n)] := hl
  refine lv_iload_n hx hb dSx_0 rfl (lv_at hl 0 rfl) ?_
  refine lv_iload_n hx hb dSx_1 rfl (lv_at hl 1 rfl) ?_
  have K : ∀ v : Value, v.category = 1 → W p l e { frames := 7, cells := 0, slots := 0, locals := 132 } s m [.int i, .int n].toArray below meth c H [] 0 0 (MQ below (kQv G (S := Unit) (fun _ => True) (fun _ => ws) A) [.int i, .int n].toArray s 0 0 A) (F0 m 5 ls [v, .int n, .int i]) := by
    intro v hv
    refine x_callSi (rest := []) lPx C (rPx l G H.size ws i n v hv h1 h2) (kR rfl) hP hD hS rfl hl.1 rfl (Nat.le_of_ble_eq_true rfl) dSx_5 (fun r u H locs hr9 hP hD hS => ?_)
    refine lv_pop hx hb dSx_8 rfl ?_
    exact k_vret C hr hlk hP hD hS () trivial (List.range ws.length) (z_rg ws) (z_ndr _) (Nat.le_of_ble_eq_true rfl) (Nat.le_of_ble_eq_true rfl) dSx_9
  rcases hXx.2.2.2.1 with hZ | ⟨t, hZ⟩
  · exact va_gets hx hb hZ hS C.2.2.2.1 (C.2.2.2.2.1.w tw_852 rfl) (fun x h => h) dSx_2 (K .null rfl)
  · exact va_gets hx hb hZ hS C.2.2.2.1 (C.2.2.2.2.1.w tw_852 rfl) (fun x h => h) dSx_2 (K (.ref t) rfl)
theorem rLc (l : Launch) (G : kG) (sz : Nat) (ws : va_W) (i : Nat) (k : Int32) (hi : i < 17) (h1 : 0 ≤ k.toInt) (h2 : k.toInt < (kSl.getD i 0 : Int)) : kM l yLc prog_24_method_2_code 2 (some .char) { frames := 8, cells := 0, slots := 0, locals := 153 } G [.ref (G.2.2.2.2.2.2 i), .int k] ws sz (kQi G (S := Unit) (fun r _ => r = sch i k.toNatClampNeg) (fun _ => ws)) := by
  refine kM.of (by decide) (Nat.le_of_ble_eq_true rfl) ?_
  intro p e s m below meth c A ls H C hr hlk hnm hP hD hS hl
  have C : kC G p s m c prog_24_method_2_code 2 "java/lang/StringLatin1" A := C
  have hx := C.1
  have hb := C.2.1
  have hXx := C.2.2.2.2.2.1
  have hl : lv_has ls 2 [(0, .ref (G.2.2.2.2.2.2 i)), (1, .int k)] := hl
  have hT := ((hXx.2.2.2.2 i hi).1 0 (by decide)).2.2.2
  obtain ⟨-, s2, s3⟩ := s_all i hi
  have ek : k.toNatClampNeg = k.toInt.toNat := rfl
  have hk := s3 k.toNatClampNeg (by omega)
  have e0 : ((0 : Int32)).toInt = 0 := by decide
  have g1 : ¬ k < 0 := fun h => absurd (ic_lt.mp h) (by omega)
  have g2 : k < Int32.ofNat (kSl.getD i 0) := ic_lt.mpr (by rw [Int32.toInt_ofNat_of_lt (by omega)]; exact h2)
  refine lv_iload_n hx hb dLc_0 rfl (lv_at hl 1 rfl) ?_
  refine lv_aload_n hx hb dLc_1 rfl (lv_at hl 0 rfl) ?_
  refine va_tlen hx hb hT hS rfl dLc_2 ?_
  refine x_callSv (rest := []) lSx C (rSx l G H.size ws k _ g1 g2) (kR rfl) hP hD hS rfl hl.1 rfl (Nat.le_of_ble_eq_true rfl) dLc_3 (fun u H locs _ hP hD hS => ?_)
  refine lv_aload_n hx hb dLc_6 rfl (lv_at hl 0 rfl) ?_
  refine lv_iload_n hx hb dLc_7 rfl (lv_at hl 1 rfl) ?_
  refine va_tb hx hb hT hS (vp_in_iff.mpr ⟨h1, h2⟩) rfl dLc_8 ?_
  refine lv_sipush (v := 255) hx hb dLc_9 (by decide) ?_
  refine lv_iand hx hb dLc_12 ?_
  refine lv_i2c hx hb dLc_13 hk.1 ?_
  exact k_tret C hr hlk hk.2 hP hD hS () rfl (List.range ws.length) (z_rg ws) (z_ndr _) (Nat.le_of_ble_eq_true rfl) (Nat.le_of_ble_eq_true rfl) dLc_14
theorem rSi (l : Launch) (G : kG) (sz : Nat) (ws : va_W) (i : Nat) (hi : i < 17) : kM l ySi prog_23_method_154_code 1 (some .boolean) { frames := 6, cells := 0, slots := 0, locals := 110 } G [.ref (G.2.2.2.2.2.1 i)] ws sz (kQi G (S := Unit) (fun r _ => r = 1) (fun _ => ws)) := by
  refine kM.of (by decide) (Nat.le_of_ble_eq_true rfl) ?_
  intro p e s m below meth c A ls H C hr hlk hnm hP hD hS hl
  have C : kC G p s m c prog_23_method_154_code 1 "java/lang/String" A := C
  have hx := C.1
  have hb := C.2.1
  have hXx := C.2.2.2.2.2.1
  have hl : lv_has ls 1 [(0, .ref (G.2.2.2.2.2.1 i))] := hl
  refine va_gets hx hb hXx.2.2.1 hS C.2.2.2.1 (C.2.2.2.2.1.w tw_836 rfl) (fun x h => h) dSi_0 ?_
  refine lv_if_eq (x := 1) (tgt := 17) hx hb dSi_3 (by decide) (fun c => absurd c (by decide)) (fun c => ?_)
  refine lv_aload_n hx hb dSi_6 rfl (lv_at hl 0 rfl) ?_
  refine vk_getf hx hb ((hXx.2.2.2.2 i hi).1 0 (by decide)).2.1 hS C.2.2.2.1 (C.2.2.2.2.1.w tw_2111 rfl) (fun x h => h) dSi_7 ?_
  refine lv_if_ne (x := 0) (tgt := 17) hx hb dSi_10 (by decide) (fun c => absurd rfl c) (fun c => ?_)
  refine lv_iconst (v := 1) hx hb dSi_13 (by decide) ?_
  refine lv_goto (tgt := 18) hx hb dSi_14 (by decide) ?_
  exact k_zret C hr hlk rfl hP hD hS () rfl (List.range ws.length) (z_rg ws) (z_ndr _) (Nat.le_of_ble_eq_true rfl) (Nat.le_of_ble_eq_true rfl) dSi_18
theorem rSk (l : Launch) (G : kG) (sz : Nat) (ws : va_W) (i : Nat) (hi : i < 17) : kM l ySk prog_23_method_152_code 1 (some .byte) { frames := 6, cells := 0, slots := 0, locals := 110 } G [.ref (G.2.2.2.2.2.1 i)] ws sz (kQi G (S := Unit) (fun r _ => r = 0) (fun _ => ws)) := by
  refine kM.of (by decide) (Nat.le_of_ble_eq_true rfl) ?_
  intro p e s m below meth c A ls H C hr hlk hnm hP hD hS hl
  have C : kC G p s m c prog_23_method_152_code 1 "java/lang/String" A := C
  have hx := C.1
  have hb := C.2.1
  have hXx := C.2.2.2.2.2.1
  have hl : lv_has ls 1 [(0, .ref (G.2.2.2.2.2.1 i))] := hl
  refine va_gets hx hb hXx.2.2.1 hS C.2.2.2.1 (C.2.2.2.2.1.w tw_836 rfl) (fun x h => h) dSk_0 ?_
  refine lv_if_eq (x := 1) (tgt := 13) hx hb dSk_3 (by decide) (fun c => absurd c (by decide)) (fun c => ?_)
  refine lv_aload_n hx hb dSk_6 rfl (lv_at hl 0 rfl) ?_
  refine vk_getf hx hb ((hXx.2.2.2.2 i hi).1 0 (by decide)).2.1 hS C.2.2.2.1 (C.2.2.2.2.1.w tw_2111 rfl) (fun x h => h) dSk_7 ?_
  refine lv_goto (tgt := 14) hx hb dSk_10 (by decide) ?_
  exact k_tret C hr hlk rfl hP hD hS () rfl (List.range ws.length) (z_rg ws) (z_ndr _) (Nat.le_of_ble_eq_true rfl) (Nat.le_of_ble_eq_true rfl) dSk_14
theorem rSl (l : Launch) (G : kG) (sz : Nat) (ws : va_W) (i : Nat) (hi : i < 17) : kM l ySl prog_23_method_54_code 1 (some .int) { frames := 7, cells := 0, slots := 0, locals := 130 } G [.ref (G.2.2.2.2.2.1 i)] ws sz (kQi G (S := Unit) (fun r _ => r = Int32.ofNat (kSl.getD i 0)) (fun _ => ws)) := by
  refine kM.of (by decide) (Nat.le_of_ble_eq_true rfl) ?_
  intro p e s m below meth c A ls H C hr hlk hnm hP hD hS hl
  have C : kC G p s m c prog_23_method_54_code 1 "java/lang/String" A := C
  have hx := C.1
  have hb := C.2.1
  have hXx := C.2.2.2.2.2.1
  have hl : lv_has ls 1 [(0, .ref (G.2.2.2.2.2.1 i))] := hl
  refine lv_aload_n hx hb dSl_0 rfl (lv_at hl 0 rfl) ?_
  refine vk_getf hx hb ((hXx.2.2.2.2 i hi).1 0 (by decide)).2.2.1 hS C.2.2.2.1 (C.2.2.2.2.1.w tw_2110 rfl) (fun x h => h) dSl_1 ?_
  refine va_tlen hx hb ((hXx.2.2.2.2 i hi).1 0 (by decide)).2.2.2 hS rfl dSl_4 ?_
  refine lv_aload_n hx hb dSl_5 rfl (lv_at hl 0 rfl) ?_
  refine k_callRi (wc := ws) (wr := []) (rest := [.int (Int32.ofNat (kSl.getD i 0))]) lSk C (rSk l G H.size ws i hi) (kR rfl) hP hD hS (List.range ws.length) [] (z_rg ws) rfl (z_ndr _) rfl (fun i h => nomatch h) (ks_recv hXx.2.2.2.2 hi hS) rfl hl.1 rfl (Nat.le_of_ble_eq_true rfl) dSl_6 (fun r u H locs e9 hP hD hS => ?_)
  have e9 : r = 0 := e9
  subst e9
  refine lv_ishr hx hb dSl_9 ?_
  refine k_eqi (s_all i hi).1 ?_
  exact k_iret C hr hlk hP hD hS () rfl (List.range ws.length) (z_rg ws) (z_ndr _) (Nat.le_of_ble_eq_true rfl) (Nat.le_of_ble_eq_true rfl) dSl_10
theorem rSc (l : Launch) (G : kG) (sz : Nat) (ws : va_W) (i : Nat) (k : Int32) (hi : i < 17) (h1 : 0 ≤ k.toInt) (h2 : k.toInt < (kSl.getD i 0 : Int)) : kM l ySc prog_23_method_56_code 2 (some .char) { frames := 9, cells := 0, slots := 0, locals := 174 } G [.ref (G.2.2.2.2.2.1 i), .int k] ws sz (kQi G (S := Unit) (fun r _ => r = sch i k.toNatClampNeg) (fun _ => ws)) := by
  refine kM.of (by decide) (Nat.le_of_ble_eq_true rfl) ?_
  intro p e s m below meth c A ls H C hr hlk hnm hP hD hS hl
  have C : kC G p s m c prog_23_method_56_code 2 "java/lang/String" A := C
  have hx := C.1
  have hb := C.2.1
  have hXx := C.2.2.2.2.2.1
  have hl : lv_has ls 2 [(0, .ref (G.2.2.2.2.2.1 i)), (1, .int k)] := hl
  obtain ⟨-, s2, s3⟩ := s_all i hi
  have ek : k.toNatClampNeg = k.toInt.toNat := rfl
  have hk := s3 k.toNatClampNeg (by omega)
  refine lv_aload_n hx hb dSc_0 rfl (lv_at hl 0 rfl) ?_
  refine k_callRi (wc := ws) (wr := []) (rest := []) lSi C (rSi l G H.size ws i hi) (kR rfl) hP hD hS (List.range ws.length) [] (z_rg ws) rfl (z_ndr _) rfl (fun i h => nomatch h) (ks_recv hXx.2.2.2.2 hi hS) rfl hl.1 rfl (Nat.le_of_ble_eq_true rfl) dSc_1 (fun r u H locs e9 hP hD hS => ?_)
  have e9 : r = 1 := e9
  subst e9
  refine lv_if_eq (x := 1) (tgt := 16) hx hb dSc_4 (by decide) (fun c => absurd c (by decide)) (fun c => ?_)
  refine lv_aload_n hx hb dSc_7 rfl (lv_at hl 0 rfl) ?_
  refine vk_getf hx hb ((hXx.2.2.2.2 i hi).1 0 (by decide)).2.2.1 hS C.2.2.2.1 (C.2.2.2.2.1.w tw_2110 rfl) (fun x h => h) dSc_8 ?_
  refine lv_iload_n hx hb dSc_11 rfl (lv_at hl 1 rfl) ?_
  refine x_callSi (rest := []) lLc C (rLc l G H.size ws i k hi h1 h2) (kR rfl) hP hD hS rfl hl.1 rfl (Nat.le_of_ble_eq_true rfl) dSc_12 (fun r u H locs e9 hP hD hS => ?_)
  have e9 : r = sch i k.toNatClampNeg := e9
  subst e9
  exact k_tret C hr hlk hk.2 hP hD hS () rfl (List.range ws.length) (z_rg ws) (z_ndr _) (Nat.le_of_ble_eq_true rfl) (Nat.le_of_ble_eq_true rfl) dSc_15
section SR2
variable {p : Program} {l : Launch} {e : Env} {R : Room} {s : State} {m : MethodId} {args : Array Value} {below : List Frame} {meth : Method} {c : Code} {H : Heap} {locs : List Loc} {cells slots : Nat} {Q : State → Prop} {cc : ByteArray} {nL pc : Nat} {ls : Array Slot} {rest st0 : List Value} {G : kG} {own : String} {A : Nat → Prop} {ws : va_W} {Z : Nat → zSh} {n : Nat} {a : Nat → Nat} {g : Nat → Nat → Int32} {L : Nat → Nat → Int64} {α : Type} {r : α}
theorem y_slen {i : Nat} {v : Int32} (C : kC G p s m c cc nL RX6 A) (hi : i < 17) (hv : Int32.ofNat (kSl.getD i 0) = v) (hP : va_P G.1 vwCl ws H) (hD : va_D A ws) (hS : va_S A s.heap H locs) (hR : kLR { frames := 7, cells := 0, slots := 0, locals := 130 } R 1 cells slots) (hsz : ls.size = nL) (hW : (rest.map fun v => v.category).sum ≤ 8) (hdg : decode cc pc = .ok (.invokevirtual 69, 3)) (kk : ∀ (H1 : Heap) (locs1 : List Loc), va_P G.1 vwCl ws H1 → va_D A ws → va_S A s.heap H1 locs1 → W p l e R s m args below meth c H1 locs1 cells slots Q (F0 m (pc + 3) ls (.int v :: rest))) : W p l e R s m args below meth c H locs cells slots Q (F0 m pc ls (.ref (G.2.2.2.2.2.1 i) :: rest)) :=
  k_callRi (wc := ws) (wr := []) (rest := rest) lSl C (rSl l G H.size ws i hi) hR hP hD hS (List.range ws.length) [] (z_rg ws) rfl (z_ndr _) rfl (fun i h => nomatch h) (ks_recv C.2.2.2.2.2.1.2.2.2.2 hi hS) rfl hsz rfl hW hdg (fun r u H1 locs1 e9 h1 h2 h3 => by
    have e9 : r = v := (show r = Int32.ofNat (kSl.getD i 0) from e9).trans hv
    subst e9; exact kk H1 locs1 h1 h2 h3)
theorem y_schr {i N : Nat} {k : Int32} {K : Option α} (C : kC G p s m c cc nL RX6 A) (hi : i < 17) (hN : kSl.getD i 0 = N) (hP : va_P G.1 vwCl ws H) (hD : va_D A ws) (hS : va_S A s.heap H locs) (hR : kLR { frames := 9, cells := 0, slots := 0, locals := 174 } R 2 cells slots) (hsz : ls.size = nL) (hW : (rest.map fun v => v.category).sum ≤ 8) (hdg : decode cc pc = .ok (.invokevirtual 74, 3)) (h : ck k N K = some r) (kk : ∀ (H1 : Heap) (locs1 : List Loc), K = some r → va_P G.1 vwCl ws H1 → va_D A ws → va_S A s.heap H1 locs1 → W p l e R s m args below meth c H1 locs1 cells slots Q (F0 m (pc + 3) ls (.int (sch i k.toNatClampNeg) :: rest))) : W p l e R s m args below meth c H locs cells slots Q (F0 m pc ls (.int k :: .ref (G.2.2.2.2.2.1 i) :: rest)) :=
  k_callRi (wc := ws) (wr := []) (rest := rest) lSc C (rSc l G H.size ws i k hi (ck_some h).1 (by rw [hN]; exact (ck_some h).2.1)) hR hP hD hS (List.range ws.length) [] (z_rg ws) rfl (z_ndr _) rfl (fun i h => nomatch h) (ks_recv C.2.2.2.2.2.1.2.2.2.2 hi hS) rfl hsz rfl hW hdg (fun r u H1 locs1 e9 h1 h2 h3 => by
    have e9 : r = sch i k.toNatClampNeg := e9
    subst e9; exact kk H1 locs1 (ck_some h).2.2 h1 h2 h3)
theorem y_aald {k N t : Nat} {i : Int32} {K : Nat → Option α} (C : kC G p s m c cc nL own A) (hP : va_P G.1 vwCl (zw G Z n a g L) H) (hk : k < n) (hZ : Z k = .inr (t + 2, N)) (hdg : decode cc pc = .ok (.aaload, 1)) (h : ck i N (ltn (t + i.toNatClampNeg % 12) K) = some r) (kk : ∀ q : Nat, t ≤ q → q < t + 12 → K q = some r → W p l e R s m args below meth c H locs cells slots Q (F0 m (pc + 1) ls (.ref (a q) :: rest))) : W p l e R s m args below meth c H locs cells slots Q (F0 m pc ls (.int i :: .ref (a k) :: rest)) :=
  x_aald C hP hk hZ (ck_some h).1 (ck_some h).2.1 hdg (kk _ (Nat.le_add_right _ _) (by have := Nat.mod_lt i.toNatClampNeg (show 12 > 0 by decide); omega) (ck_some h).2.2)
theorem y_copy {index k0 k1 n0 n1 : Nat} {sp dp nn : Int32} {K : (Nat → Nat → Int32) → Option α} (Lk : kLC own index) (C : kC G p s m c cc nL own A) (hsz : ls.size = nL) (hP : va_P G.1 vwCl (zw G Z n a g L) H) (hD : va_D A (zw G Z n a g L)) (hS : va_S A s.heap H locs) (hk0 : k0 < n) (hk1 : k1 < n) (hZ0 : Z k0 = .inr (0, n0)) (hZ1 : Z k1 = .inr (0, n1)) (h1 : ¬ sp < 0) (h2 : ¬ dp < 0) (h3 : ¬ nn < 0) (h4 : sp.toNatClampNeg + nn.toNatClampNeg ≤ n0) (h5 : dp.toNatClampNeg + nn.toNatClampNeg ≤ n1) (hf : 1 ≤ R.frames) (hl : (rest.map fun v => v.category).sum + (nativeFrameWords "java/lang/System" "arraycopy" 5 + 11) ≤ R.locals) (hdg : decode cc pc = .ok (.invokestatic index, 3)) (h : stA g k1 (va_cpy (g k0) (g k1) sp.toNatClampNeg dp.toNatClampNeg nn.toNatClampNeg) K = some r) (kk : ∀ (g1 : Nat → Nat → Int32) (H1 : Heap) (locs1 : List Loc), K g1 = some r → va_P G.1 vwCl (zw G Z n a g1 L) H1 → va_D A (zw G Z n a g1 L) → va_S A s.heap H1 locs1 → W p l e R s m args below meth c H1 locs1 cells slots Q (F0 m (pc + 3) ls rest)) : W p l e R s m args below meth c H locs cells slots Q (F0 m pc ls (.int nn :: .int dp :: .ref (a k1) :: .int sp :: .ref (a k0) :: rest)) :=
  x_copy z_none Lk C hsz hP hD hS hk0 hk1 hZ0 hZ1 h1 h2 h3 h4 h5 hf hl hdg (fun g1 H1 locs1 e1 _ q1 q2 q3 => kk g1 H1 locs1 (by rw [e1]; exact h) q1 q2 q3)
end SR2

