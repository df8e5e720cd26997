theorem tw_27 : (Jvm.Cond.instantiable "MarshBells" (17 : Nat)) ∈ lw_tbl := tk_1 (List.mem_of_getElem? (i := 27) rfl)
theorem tw_1418 : (Jvm.Cond.instantiable "MarshBellsModel" (88 : Nat)) ∈ lw_tbl := tk_6 (List.mem_of_getElem? (i := 218) rfl)
theorem tw_2091 : (Jvm.Cond.arrayClass Jvm.ClassFile.FieldType.long) ∈ lw_tbl := tk_9 (List.mem_of_getElem? (i := 171) rfl)
theorem tw_41 : (Jvm.Cond.arrayOver (Jvm.ClassFile.FieldType.object "MarshBells$Lesson")) ∈ lw_tbl := tk_1 (List.mem_of_getElem? (i := 41) rfl)
theorem tw_764 : (Jvm.Cond.laysStatic "java/lang/Throwable" "UNASSIGNED_STACK" "[Ljava/lang/StackTraceElement;") ∈ lw_tbl := tk_4 (List.mem_of_getElem? (i := 44) rfl)
theorem tw_766 : (Jvm.Cond.laysStatic "java/lang/Throwable" "SUPPRESSED_SENTINEL" "Ljava/util/List;") ∈ lw_tbl := tk_4 (List.mem_of_getElem? (i := 46) rfl)
theorem tw_14 : (Jvm.Cond.initialized "java/lang/Throwable") ∈ lw_tbl := tk_1 (List.mem_of_getElem? (i := 14) rfl)
theorem dL_law_2265 : decode cL_law 2265 = .ok (.iinc 4 6, 3) := by decide +kernel
theorem dL_law_2268 : decode cL_law 2268 = .ok (.goto (-2245), 3) := by decide +kernel
theorem dL_law_23 : decode cL_law 23 = .ok (.iload 4, 2) := by decide +kernel
theorem dL_law_25 : decode cL_law 25 = .ok (.aload_n 0, 1) := by decide +kernel
theorem dL_law_26 : decode cL_law 26 = .ok (.arraylength, 1) := by decide +kernel
theorem dL_law_27 : decode cL_law 27 = .ok (.bipush 6, 2) := by decide +kernel
theorem dL_law_29 : decode cL_law 29 = .ok (.isub, 1) := by decide +kernel
theorem dL_law_30 : decode cL_law 30 = .ok (.if_icmp .gt 2241, 3) := by decide +kernel
theorem dL_law_2271 : decode cL_law 2271 = .ok (.iconst 1, 1) := by decide +kernel
theorem dL_law_2272 : decode cL_law 2272 = .ok (.ireturn, 1) := by decide +kernel
def R_law : String := "MarshBellsLaw"
def lw_P (b : Addr) (xs : List Int32) (args : Array Value) (s : State) : Prop := args = #[.ref b] ∧ s.IntsAt b xs ∧ xs.length ≤ 6 ∧ (Jvm.Cond.and given_1 narrow_1).before args s = true
def lw_Q (_ : Array Value) (s : State) (o : Outcome) (t : State) : Prop := o = .returned (some (.int 1)) ∧ Framed s o t [] 600002 7302232
def lw_Z (below : List Frame) (a : Array Value) (s : State) : State → Prop := fun t => ∃ o, t.status = .running ∧ Ended t below o ∧ lw_Q a s o t
/-- the law's own end, with 1 on the stack, nothing written that was there before, its room as the claim has it -/
theorem lw_ret {p : Program} {l : Launch} {e : Env} {s : State} {m : MethodId} {below : List Frame} {meth : Method} {c : Code} {b : Nat} (hx : p.tables.exec = Jvm.exec) (hb : c.code = code) (hr : meth.sig.returnType = ret) (hlocks : meth.locks = false) {pc : Nat} {H : Heap} {ls : Array Slot} (hdg : decode code pc = .ok (.ireturn, 1)) : W p l e room_1 s m #[Value.ref b] below meth c H [] 600002 7302232 (lw_Z below #[Value.ref b] s) (F0 m pc ls [.int 1]) := by
  intro T hT X
  obtain ⟨fs, hret, hrun, hended, hW, hframe⟩ := X.leave (v := some (.int 1)) (hlocks := hlocks) (fun h => by rw [hr] at h; cases h)
  have hmeth' : T.vm.method? m = some meth := X.method'
  refine ⟨T.setFrames fs, ?_, .returned (some (.int 1)), hrun, hended, rfl, ⟨_, rfl⟩, hW, hframe⟩
  jvm_step X.here [X.here.top, hx, hb, hdg, hmeth', hr, ret, narrow_b1]
  (try refine ⟨rfl, ?_⟩); (try refine ⟨rfl, ?_⟩)
  first | (intro acts; rw [hret _ acts rfl rfl rfl]) | rw [hret _ _ rfl rfl rfl]
  exact Steps.refl _
/-- what holds at the law's entry: the machine, the code, the tables' words (any of lw_tbl by 'hts w (by decide +kernel)'), the script of L ints xs at the cell b, what the Statement gives of the start (any of its parts by flat_of_before) -/
def lw_At (p : Program) (s : State) (m : MethodId) (meth : Method) (c : Code) (b L : Nat) (xs : Nat → Int32) : Prop :=
  p.tables.exec = Jvm.exec ∧ c.code = code ∧ meth.sig.returnType = ret ∧ c.maxLocals = 8 ∧ s.vm.findClass R_law = some m.cls ∧ (∀ w ∈ lw_tbl, w.before #[Value.ref b] s = true) ∧ va_X b L xs s s.heap ∧ b < s.heap.size ∧ meth.locks = false ∧ (Jvm.Cond.and given_1 narrow_1).before #[Value.ref b] s = true

theorem kW.of {s : State} {args : Array Value} (h : ∀ w ∈ lw_tbl, w.before args s = true) : kW s := by
  intro w hm hk a
  have h1 := h w hm
  unfold kOk at hk
  split at hk
  · exact va_tabs rfl rfl h1
  · exact va_tabs rfl rfl h1
  · exact va_tabs rfl rfl h1
  · exact va_tabs rfl rfl h1
  · exact word_at (State.WarmedH.refl s) (good_of_word hk) h1
theorem law_arr {args : Array Value} {s : State} {ty : FieldType} (h : (Cond.arrayClass ty).before args s = true) : ∃ cA : ClassId, ArrOfT s cA ty ∧ s.vm.findClass ("[" ++ ty.toString) = some cA := by
  obtain ⟨c, k, comp, h1, h2, h3⟩ := Cond.arrayClass_spec h
  exact ⟨c, fun n z => ⟨fun k h => (by cases h), k, h2, comp, h3⟩, h1⟩
set_option maxHeartbeats 4000000 in
set_option maxRecDepth 100000 in
theorem law_env {p : Program} {s : State} {m : MethodId} {meth : Method} {c : Code} {b L : Nat} {xs : Nat → Int32} (C0 : lw_At p s m meth c b L xs) : ∃ G : kG, kC G p s m c cL_law 8 RL (fun q : Nat => s.heap.size ≤ q) := by
  obtain ⟨hx, hb, hr, hml, hown, hts, hX, hbl, hlocks, hgv⟩ := C0
  obtain ⟨c0, iS0, hK0⟩ := u_known (C := RX0) (T := TX0) (N := 7) (n := 7) hts inWX0 (hts (.instantiable RX0 7) tw_430)
  obtain ⟨c1, iS1, hK1⟩ := u_known (C := RX1) (T := TX1) (N := 10) (n := 10) hts inWX1 (hts (.instantiable RX1 10) tw_293)
  obtain ⟨c2, iS2, hK2⟩ := u_known (C := RX2) (T := TX2) (N := 9) (n := 9) hts inWX2 (hts (.instantiable RX2 9) tw_395)
  obtain ⟨c3, iS3, hK3⟩ := u_known (C := RX3) (T := TX3) (N := 12) (n := 12) hts inWX3 (hts (.instantiable RX3 12) tw_231)
  obtain ⟨c4, iS4, hK4⟩ := u_known (C := RX4) (T := TX4) (N := 3) (n := 3) hts inWX4 (hts (.instantiable RX4 3) tw_352)
  obtain ⟨c5, iS5, hK5⟩ := u_known (C := RX5) (T := TX5) (N := 14) (n := 14) hts inWX5 (hts (.instantiable RX5 14) tw_68)
  obtain ⟨c6, iS6, hK6⟩ := u_known (C := RX6) (T := TX6) (N := 11) (n := 11) hts inWX6 (hts (.instantiable RX6 11) tw_189)
  obtain ⟨c7, iS7, hK7⟩ := u_known (C := RX7) (T := TX7) (N := 5) (n := 5) hts inWX7 (hts (.instantiable RX7 5) tw_35)
  obtain ⟨c8, iS8, hK8⟩ := u_known (C := RX8) (T := TX8) (N := 5) (n := 5) hts inWX8 (hts (.instantiable RX8 5) tw_43)
  obtain ⟨c9, iS9, hK9⟩ := u_known (C := RX9) (T := TX9) (N := 6) (n := 6) hts inWX9 (hts (.instantiable RX9 6) tw_460)
  obtain ⟨c10, iS10, hK10⟩ := u_known (C := RX10) (T := TX10) (N := 7) (n := 7) hts inWX10 (hts (.instantiable RX10 7) tw_346)
  obtain ⟨c11, iS11, hK11⟩ := u_known (C := RX11) (T := TX11) (N := 17) (n := 17) hts inWX11 (hts (.instantiable RX11 17) tw_27)
  obtain ⟨c12, iS12, hK12⟩ := u_known (C := RX12) (T := TX12) (N := 88) (n := 88) hts inWX12 (hts (.instantiable RX12 88) tw_1418)
  obtain ⟨cI, hI1, hI2⟩ := law_arr (hts (.arrayClass .int) tw_67)
  obtain ⟨cZ, hZ1, hZ2⟩ := law_arr (hts (.arrayClass .boolean) tw_484)
  obtain ⟨cJ, hJ1, hJ2⟩ := law_arr (hts (.arrayClass .long) tw_2091)
  obtain ⟨comp, cL, kL, o1, -, o3, o4, o5⟩ := Cond.arrayOver_spec (hts (.arrayOver (.object "MarshBells$Lesson")) tw_41)
  have hfl := flat_of_before _ hgv
  have hU : (Cond.isRef (.static "java/lang/Throwable" "UNASSIGNED_STACK" "[Ljava/lang/StackTraceElement;")).before #[Value.ref b] s = true := hfl _ (by decide +kernel)
  have hN : (Cond.isRef (.static "java/lang/Throwable" "SUPPRESSED_SENTINEL" "Ljava/util/List;")).before #[Value.ref b] s = true := hfl _ (by decide +kernel)
  have hNc : (Cond.not (.castable "java/lang/IllegalArgumentException" "java/util/NoSuchElementException")).before #[Value.ref b] s = true := hfl _ (by decide +kernel)
  refine ⟨((fun k => match k with | 0 => c0 | 1 => c1 | 2 => c2 | 3 => c3 | 4 => c4 | 5 => c5 | 6 => c6 | 7 => c7 | 8 => c8 | 9 => c9 | 10 => c10 | 11 => c11 | 12 => c12 | _ => c0, fun k => match k with | 0 => iS0 | 1 => iS1 | 2 => iS2 | 3 => iS3 | 4 => iS4 | 5 => iS5 | 6 => iS6 | 7 => iS7 | 8 => iS8 | 9 => iS9 | 10 => iS10 | 11 => iS11 | 12 => iS12 | _ => iS0), cI, cZ, cL, cJ), hx, hb, hml, hown, ⟨kW.of hts, ⟨?_, ?_⟩, va_AO.of (hts _ tw_41), va_Nc.of hNc⟩, ⟨vx_Zqof (hts _ tw_764) (hts _ tw_14) hU (fun a h1 h2 => absurd h1 (Nat.not_lt.mpr h2)), vx_Zqof (hts _ tw_766) (hts _ tw_14) hN (fun a h1 h2 => absurd h1 (Nat.not_lt.mpr h2))⟩, fun q h => h⟩
  · intro k q hq
    match k, hq with
    | 0, hq => cases hq; exact hK0
    | 1, hq => cases hq; exact hK1
    | 2, hq => cases hq; exact hK2
    | 3, hq => cases hq; exact hK3
    | 4, hq => cases hq; exact hK4
    | 5, hq => cases hq; exact hK5
    | 6, hq => cases hq; exact hK6
    | 7, hq => cases hq; exact hK7
    | 8, hq => cases hq; exact hK8
    | 9, hq => cases hq; exact hK9
    | 10, hq => cases hq; exact hK10
    | 11, hq => cases hq; exact hK11
    | 12, hq => cases hq; exact hK12
    | k + 13, hq => simp [vwCl] at hq
  · intro k q hq
    match k, hq with
    | 0, hq => cases hq; exact ⟨hI1, hI2⟩
    | 1, hq => cases hq; exact ⟨hZ1, hZ2⟩
    | 2, hq => cases hq; exact ⟨fun n z => ⟨fun k h => (by cases h), kL, o3, comp, o4⟩, kL, comp, o3, o4, o1, o5⟩
    | 3, hq => cases hq; exact ⟨hJ1, hJ2⟩
    | k + 4, hq => simp [kT] at hq
set_option maxHeartbeats 4000000 in
set_option maxRecDepth 100000 in
/-- the law's loop ends: 6 ints are read -/
theorem law_end {p : Program} {e : Env} {s : State} {m : MethodId} {below : List Frame} {meth : Method} {c : Code} {l : Launch} (hst : l.stackTraces = false) {b : Nat} {xs : Nat → Int32} {G : kG} {A : Nat → Prop} (C0 : lw_At p s m meth c b 6 xs) (hA : A = fun q : Nat => s.heap.size ≤ q) (C : kC G p s m c cL_law 8 RL A) {H : Heap} {locs : List Loc} {ls : Array Slot} {cells slots : Nat} (hS : va_S A s.heap H locs) (hl : lv_has ls 8 [(0, .ref b), (4, .int 0)]) (hc : cells ≤ 600002) (hs : slots ≤ 7302232) :
    W p l e room_1 s m #[Value.ref b] below meth c H locs cells slots (lw_Z below #[Value.ref b] s) (F0 m 2265 ls []) := by
  obtain ⟨hx, hb, hr, -, -, -, hX, hbl, hlocks, -⟩ := C0
  have hbA : ¬ A b := by rw [hA]; exact Nat.not_le.mpr hbl
  refine lv_iinc (v := 6) (lv' := [(4, .int 6), (0, .ref b)]) hx hb dL_law_2265 hl (k := 1) rfl (by decide) (by decide) rfl (fun ls hl => ?_)
  refine lv_goto (tgt := 23) hx hb dL_law_2268 (by decide) ?_
  refine lv_iload hx hb dL_law_23 (lv_at hl 0 rfl) ?_
  refine lv_aload_n hx hb dL_law_25 rfl (lv_at hl 1 rfl) ?_
  refine va_slen hx hb hX hbl hbA hS dL_law_26 ?_
  refine lv_bipush (v := 6) hx hb dL_law_27 (by decide) ?_
  refine lv_isub hx hb dL_law_29 ?_
  refine k_eqi (y := 0) (by decide) ?_
  refine lv_icmp_gt (x := 6) (y := 0) (tgt := 2271) hx hb dL_law_30 (by decide) (fun c_1 => ?_) (fun c_1 => ?_)
  · refine lv_iconst (v := 1) hx hb dL_law_2271 (by decide) ?_
    refine va_forget (fun q hq => by have h9 := hS.2.2 q hq; rw [hA] at h9; exact h9) ?_
    refine W.widen hc hs ?_
    exact lw_ret hx hb hr hlocks dL_law_2272
  · exact absurd (by decide) c_1
set_option maxHeartbeats 4000000 in
set_option maxRecDepth 100000 in
/-- too few ints: the loop isn't entered -/
theorem law_exit {p : Program} {e : Env} {s : State} {m : MethodId} {below : List Frame} {meth : Method} {c : Code} {l : Launch} (hst : l.stackTraces = false) {b : Nat} {xs : Nat → Int32} {G : kG} {A : Nat → Prop} {L : Nat} (hL : L < 6) (C0 : lw_At p s m meth c b L xs) (hA : A = fun q : Nat => s.heap.size ≤ q) (C : kC G p s m c cL_law 8 RL A) {H : Heap} {locs : List Loc} {ls : Array Slot} {cells slots : Nat} (hS : va_S A s.heap H locs) (hl : lv_has ls 8 [(0, .ref b), (4, .int 0)]) (hc : cells ≤ 600002) (hs : slots ≤ 7302232) :
    W p l e room_1 s m #[Value.ref b] below meth c H locs cells slots (lw_Z below #[Value.ref b] s) (F0 m 23 ls []) := by
  obtain ⟨hx, hb, hr, -, -, -, hX, hbl, hlocks, -⟩ := C0
  have hbA : ¬ A b := by rw [hA]; exact Nat.not_le.mpr hbl
  refine lv_iload hx hb dL_law_23 (lv_at hl 1 rfl) ?_
  refine lv_aload_n hx hb dL_law_25 rfl (lv_at hl 0 rfl) ?_
  refine va_slen hx hb hX hbl hbA hS dL_law_26 ?_
  refine lv_bipush (v := 6) hx hb dL_law_27 (by decide) ?_
  refine lv_isub hx hb dL_law_29 ?_
  refine lv_icmp_gt (x := 0) (y := Int32.ofNat L - 6) (tgt := 2271) hx hb dL_law_30 (by decide) (fun c_1 => ?_) (fun c_1 => ?_)
  · refine lv_iconst (v := 1) hx hb dL_law_2271 (by decide) ?_
    refine va_forget (fun q hq => by have h9 := hS.2.2 q hq; rw [hA] at h9; exact h9) ?_
    refine W.widen hc hs ?_
    exact lw_ret hx hb hr hlocks dL_law_2272
  · exact absurd (by rcases (by omega : L = 0 ∨ L = 1 ∨ L = 2 ∨ L = 3 ∨ L = 4 ∨ L = 5) with rfl | rfl | rfl | rfl | rfl | rfl <;> decide) c_1
