theorem tw_430 : (Jvm.Cond.instantiable "MarshBells$Chances" (7 : Nat)) ∈ lw_tbl := tk_2 (List.mem_of_getElem? (i := 190) rfl)
theorem tw_293 : (Jvm.Cond.instantiable "MarshBells$Day" (10 : Nat)) ∈ lw_tbl := tk_2 (List.mem_of_getElem? (i := 53) rfl)
theorem tw_395 : (Jvm.Cond.instantiable "MarshBells$GapSearch" (9 : Nat)) ∈ lw_tbl := tk_2 (List.mem_of_getElem? (i := 155) rfl)
theorem tw_231 : (Jvm.Cond.instantiable "MarshBells$Held" (12 : Nat)) ∈ lw_tbl := tk_1 (List.mem_of_getElem? (i := 231) rfl)
theorem tw_352 : (Jvm.Cond.instantiable "MarshBells$Least" (3 : Nat)) ∈ lw_tbl := tk_2 (List.mem_of_getElem? (i := 112) rfl)
theorem tw_68 : (Jvm.Cond.instantiable "MarshBells$Lesson" (14 : Nat)) ∈ lw_tbl := tk_1 (List.mem_of_getElem? (i := 68) rfl)
theorem tw_189 : (Jvm.Cond.instantiable "MarshBells$Parser" (11 : Nat)) ∈ lw_tbl := tk_1 (List.mem_of_getElem? (i := 189) rfl)
theorem tw_35 : (Jvm.Cond.instantiable "MarshBells$Plan" (5 : Nat)) ∈ lw_tbl := tk_1 (List.mem_of_getElem? (i := 35) rfl)
theorem tw_43 : (Jvm.Cond.instantiable "MarshBells$Rules" (5 : Nat)) ∈ lw_tbl := tk_1 (List.mem_of_getElem? (i := 43) rfl)
theorem tw_460 : (Jvm.Cond.instantiable "MarshBells$Stair" (6 : Nat)) ∈ lw_tbl := tk_2 (List.mem_of_getElem? (i := 220) rfl)
theorem tw_346 : (Jvm.Cond.instantiable "MarshBells$Trials" (7 : Nat)) ∈ lw_tbl := tk_2 (List.mem_of_getElem? (i := 106) rfl)
theorem tw_27 : (Jvm.Cond.instantiable "MarshBells" (17 : Nat)) ∈ lw_tbl := tk_1 (List.mem_of_getElem? (i := 27) rfl)
theorem tw_1418 : (Jvm.Cond.instantiable "MarshBellsModel" (88 : Nat)) ∈ lw_tbl := tk_6 (List.mem_of_getElem? (i := 218) rfl)
theorem tw_67 : (Jvm.Cond.arrayClass Jvm.ClassFile.FieldType.int) ∈ lw_tbl := tk_1 (List.mem_of_getElem? (i := 67) rfl)
theorem tw_484 : (Jvm.Cond.arrayClass Jvm.ClassFile.FieldType.boolean) ∈ lw_tbl := tk_3 (List.mem_of_getElem? (i := 4) rfl)
theorem tw_2091 : (Jvm.Cond.arrayClass Jvm.ClassFile.FieldType.long) ∈ lw_tbl := tk_9 (List.mem_of_getElem? (i := 171) rfl)
theorem tw_41 : (Jvm.Cond.arrayOver (Jvm.ClassFile.FieldType.object "MarshBells$Lesson")) ∈ lw_tbl := tk_1 (List.mem_of_getElem? (i := 41) rfl)
theorem tw_764 : (Jvm.Cond.laysStatic "java/lang/Throwable" "UNASSIGNED_STACK" "[Ljava/lang/StackTraceElement;") ∈ lw_tbl := tk_4 (List.mem_of_getElem? (i := 44) rfl)
theorem tw_766 : (Jvm.Cond.laysStatic "java/lang/Throwable" "SUPPRESSED_SENTINEL" "Ljava/util/List;") ∈ lw_tbl := tk_4 (List.mem_of_getElem? (i := 46) rfl)
theorem tw_14 : (Jvm.Cond.initialized "java/lang/Throwable") ∈ lw_tbl := tk_1 (List.mem_of_getElem? (i := 14) rfl)
theorem tw_837 : (Jvm.Cond.laysStatic "java/lang/String" "COMPACT_STRINGS" "Z") ∈ lw_tbl := tk_4 (List.mem_of_getElem? (i := 117) rfl)
theorem tw_853 : (Jvm.Cond.laysStatic "jdk/internal/util/Preconditions" "SIOOBE_FORMATTER" "Ljava/util/function/BiFunction;") ∈ lw_tbl := tk_4 (List.mem_of_getElem? (i := 133) rfl)
theorem tw_823 : (Jvm.Cond.stringRef "MarshBells$Parser" (90 : Nat) "lesson") ∈ lw_tbl := tk_4 (List.mem_of_getElem? (i := 103) rfl)
theorem tw_913 : (Jvm.Cond.stringRef "MarshBells$Parser" (99 : Nat) "walk") ∈ lw_tbl := tk_4 (List.mem_of_getElem? (i := 193) rfl)
theorem tw_918 : (Jvm.Cond.stringRef "MarshBells$Parser" (104 : Nat) "stair") ∈ lw_tbl := tk_4 (List.mem_of_getElem? (i := 198) rfl)
theorem tw_923 : (Jvm.Cond.stringRef "MarshBells$Parser" (109 : Nat) "rule") ∈ lw_tbl := tk_4 (List.mem_of_getElem? (i := 203) rfl)
theorem tw_896 : (Jvm.Cond.stringRef "MarshBells$Parser" (168 : Nat) "all") ∈ lw_tbl := tk_4 (List.mem_of_getElem? (i := 176) rfl)
theorem tw_905 : (Jvm.Cond.stringRef "MarshBells$Parser" (177 : Nat) "some") ∈ lw_tbl := tk_4 (List.mem_of_getElem? (i := 185) rfl)
theorem tw_906 : (Jvm.Cond.stringRef "MarshBells$Parser" (181 : Nat) "limit") ∈ lw_tbl := tk_4 (List.mem_of_getElem? (i := 186) rfl)
theorem tw_911 : (Jvm.Cond.stringRef "MarshBells$Parser" (189 : Nat) "maybe") ∈ lw_tbl := tk_4 (List.mem_of_getElem? (i := 191) rfl)
theorem tw_912 : (Jvm.Cond.stringRef "MarshBells$Parser" (193 : Nat) "gap") ∈ lw_tbl := tk_4 (List.mem_of_getElem? (i := 192) rfl)
theorem tw_979 : (Jvm.Cond.stringRef "MarshBells$Parser" (209 : Nat) "or") ∈ lw_tbl := tk_5 (List.mem_of_getElem? (i := 19) rfl)
theorem tw_978 : (Jvm.Cond.stringRef "MarshBells$Parser" (217 : Nat) "and") ∈ lw_tbl := tk_5 (List.mem_of_getElem? (i := 18) rfl)
theorem tw_944 : (Jvm.Cond.stringRef "MarshBells$Parser" (219 : Nat) "not") ∈ lw_tbl := tk_4 (List.mem_of_getElem? (i := 224) rfl)
theorem tw_969 : (Jvm.Cond.stringRef "MarshBells$Parser" (236 : Nat) "over") ∈ lw_tbl := tk_5 (List.mem_of_getElem? (i := 9) rfl)
theorem tw_970 : (Jvm.Cond.stringRef "MarshBells$Parser" (237 : Nat) "late") ∈ lw_tbl := tk_5 (List.mem_of_getElem? (i := 10) rfl)
theorem tw_971 : (Jvm.Cond.stringRef "MarshBells$Parser" (239 : Nat) "clock") ∈ lw_tbl := tk_5 (List.mem_of_getElem? (i := 11) rfl)
theorem tw_972 : (Jvm.Cond.stringRef "MarshBells$Parser" (241 : Nat) "room") ∈ lw_tbl := tk_5 (List.mem_of_getElem? (i := 12) rfl)
theorem tw_973 : (Jvm.Cond.stringRef "MarshBells$Parser" (242 : Nat) "people") ∈ lw_tbl := tk_5 (List.mem_of_getElem? (i := 13) rfl)
def R_law : String := "MarshBellsLaw"
def lw_P (b : Addr) (xs : List Int32) (args : Array Value) (s : State) : Prop := args = #[.ref b] ∧ s.IntsAt b xs ∧ xs.length ≤ 3072 ∧ (Jvm.Cond.and given_1 narrow_1).before args s = true
def lw_Q (_ : Array Value) (s : State) (o : Outcome) (t : State) : Prop := o = .returned (some (.int 1)) ∧ Framed s o t [] 601024 7293033
def lw_Z (below : List Frame) (a : Array Value) (s : State) : State → Prop := fun t => ∃ o, t.status = .running ∧ Ended t below o ∧ lw_Q a s o t
/-- the law's own end, with 1 on the stack, nothing written that was there before, its room as the claim has it -/
theorem lw_ret {p : Program} {l : Launch} {e : Env} {s : State} {m : MethodId} {below : List Frame} {meth : Method} {c : Code} {b : Nat} (hx : p.tables.exec = Jvm.exec) (hb : c.code = code) (hr : meth.sig.returnType = ret) (hlocks : meth.locks = false) {pc : Nat} {H : Heap} {ls : Array Slot} (hdg : decode code pc = .ok (.ireturn, 1)) : W p l e room_1 s m #[Value.ref b] below meth c H [] 601024 7293033 (lw_Z below #[Value.ref b] s) (F0 m pc ls [.int 1]) := by
  intro T hT X
  obtain ⟨fs, hret, hrun, hended, hW, hframe⟩ := X.leave (v := some (.int 1)) (hlocks := hlocks) (fun h => by rw [hr] at h; cases h)
  have hmeth' : T.vm.method? m = some meth := X.method'
  refine ⟨T.setFrames fs, ?_, .returned (some (.int 1)), hrun, hended, rfl, ⟨_, rfl⟩, hW, hframe⟩
  jvm_step X.here [X.here.top, hx, hb, hdg, hmeth', hr, ret, narrow_b1]
  (try refine ⟨rfl, ?_⟩); (try refine ⟨rfl, ?_⟩)
  first | (intro acts; rw [hret _ acts rfl rfl rfl]) | rw [hret _ _ rfl rfl rfl]
  exact Steps.refl _
/-- what holds at the law's entry: the machine, the code, the tables' words (any of lw_tbl by 'hts w (by decide +kernel)'), the script of L ints xs at the cell b, what the Statement gives of the start (any of its parts by flat_of_before) -/
def lw_At (p : Program) (s : State) (m : MethodId) (meth : Method) (c : Code) (b L : Nat) (xs : Nat → Int32) : Prop :=
  p.tables.exec = Jvm.exec ∧ c.code = code ∧ meth.sig.returnType = ret ∧ c.maxLocals = 8 ∧ s.vm.findClass R_law = some m.cls ∧ (∀ w ∈ lw_tbl, w.before #[Value.ref b] s = true) ∧ va_X b L xs s s.heap ∧ b < s.heap.size ∧ meth.locks = false ∧ (Jvm.Cond.and given_1 narrow_1).before #[Value.ref b] s = true

theorem kW.of {s : State} {args : Array Value} (h : ∀ w ∈ lw_tbl, w.before args s = true) : kW s := by
  intro w hm hk a
  have h1 := h w hm
  unfold kOk at hk
  split at hk
  · exact va_tabs rfl rfl h1
  · exact va_tabs rfl rfl h1
  · exact va_tabs rfl rfl h1
  · exact va_tabs rfl rfl h1
  · exact word_at (State.WarmedH.refl s) (good_of_word hk) h1
theorem law_arr {args : Array Value} {s : State} {ty : FieldType} (h : (Cond.arrayClass ty).before args s = true) : ∃ cA : ClassId, ArrOfT s cA ty ∧ s.vm.findClass ("[" ++ ty.toString) = some cA := by
  obtain ⟨c, k, comp, h1, h2, h3⟩ := Cond.arrayClass_spec h
  exact ⟨c, fun n z => ⟨fun k h => (by cases h), k, h2, comp, h3⟩, h1⟩

set_option maxHeartbeats 4000000 in
set_option maxRecDepth 100000 in
theorem law_str1 {s : State} {b : Nat} {A : Nat → Prop} (hgv : (Jvm.Cond.and given_1 narrow_1).before #[Value.ref b] s = true) (hA : ∀ a : Nat, a < s.heap.size → ¬ A a) (i : Nat) (hi : i < 17) : ∃ adK adV : Nat → Nat, vk_S 1 [kSl.getD i 0] [kSb.getD i []] adK adV A s s.heap ∧ ∀ k : Nat, k < 1 → (Term.string "MarshBells$Parser" (kSi i)).eval #[Value.ref b] s none [] s = some (.ref (adK k)) := by
  have hfl := flat_of_before _ hgv
  have z : ∀ k : Nat, k < 1 → k = 0 := fun k h => by omega
  refine vk_Sof (tm := fun _ => Term.string "MarshBells$Parser" (kSi i)) (len := [kSl.getD i 0]) (byt := [kSb.getD i []]) ?_ ?_ ?_ ?_ ?_ ?_ ?_ hA
  · have h : ∀ i, i < 17 → kSl.getD i 0 < 2 ^ 31 := by decide +kernel
    intro k hk; rw [z k hk]; exact h i hi
  · have h : ∀ i, i < 17 → Cond.exactly (Term.string "MarshBells$Parser" (kSi i)) "java/lang/String" ∈ flatC (Jvm.Cond.and given_1 narrow_1) := by decide +kernel
    exact fun _ _ => hfl _ (h i hi)
  · have h : ∀ i, i < 17 → Cond.eq (.field (Term.string "MarshBells$Parser" (kSi i)) "java/lang/String" "coder" "B") (.int 0) ∈ flatC (Jvm.Cond.and given_1 narrow_1) := by decide +kernel
    exact fun _ _ => hfl _ (h i hi)
  · have h : ∀ i, i < 17 → Cond.arrayOf (.field (Term.string "MarshBells$Parser" (kSi i)) "java/lang/String" "value" "[B") .byte ∈ flatC (Jvm.Cond.and given_1 narrow_1) := by decide +kernel
    exact fun _ _ => hfl _ (h i hi)
  · have h : ∀ i, i < 17 → Cond.eq (.length (.field (Term.string "MarshBells$Parser" (kSi i)) "java/lang/String" "value" "[B")) (.int (Int32.ofNat (kSl.getD i 0))) ∈ flatC (Jvm.Cond.and given_1 narrow_1) := by decide +kernel
    intro k hk; rw [z k hk]; exact hfl _ (h i hi)
  · have h : ∀ i, i < 17 → ∀ j, j < kSl.getD i 0 → Cond.eq (.elem (.field (Term.string "MarshBells$Parser" (kSi i)) "java/lang/String" "value" "[B") (.int (Int32.ofNat j))) (.int ((kSb.getD i []).getD j 0)) ∈ flatC (Jvm.Cond.and given_1 narrow_1) := by decide +kernel
    intro k hk j hj; rw [z k hk] at hj ⊢; exact hfl _ (h i hi j hj)
  · intro k j hk hj hn; exact absurd ((z k hk).trans (z j hj).symm) hn
theorem law_strs {s : State} {b : Nat} {A : Nat → Prop} (hgv : (Jvm.Cond.and given_1 narrow_1).before #[Value.ref b] s = true) (hA : ∀ a : Nat, a < s.heap.size → ¬ A a) : ∃ adK adV : Nat → Nat, kSS adK adV A s s.heap ∧ ∀ i : Nat, i < 17 → (Term.string "MarshBells$Parser" (kSi i)).eval #[Value.ref b] s none [] s = some (.ref (adK i)) := by
  have h0 : ∀ i : Nat, ∃ q : (Nat → Nat) × (Nat → Nat), i < 17 → vk_S 1 [kSl.getD i 0] [kSb.getD i []] q.1 q.2 A s s.heap ∧ ∀ k : Nat, k < 1 → (Term.string "MarshBells$Parser" (kSi i)).eval #[Value.ref b] s none [] s = some (.ref (q.1 k)) := by
    intro i
    by_cases hi : i < 17
    · obtain ⟨x, y, h⟩ := law_str1 hgv hA i hi
      exact ⟨(x, y), fun _ => h⟩
    · exact ⟨(id, id), fun h => absurd h hi⟩
  obtain ⟨ad, had⟩ := Classical.axiomOfChoice h0
  refine ⟨fun i => (ad i).1 0, fun i => (ad i).2 0, fun i hi => ⟨fun k hk => ?_, fun k j hk hj _ => by omega⟩, fun i hi => (had i hi).2 0 (by decide)⟩
  have hz : k = 0 := by omega
  subst hz
  exact (had i hi).1.1 0 hk
set_option maxHeartbeats 4000000 in
set_option maxRecDepth 100000 in
theorem law_env {p : Program} {s : State} {m : MethodId} {meth : Method} {c : Code} {b L : Nat} {xs : Nat → Int32} (C0 : lw_At p s m meth c b L xs) : ∃ G : kG, kC G p s m c cL_law 8 RL (fun q : Nat => s.heap.size ≤ q) := by
  obtain ⟨hx, hb, hr, hml, hown, hts, hX, hbl, hlocks, hgv⟩ := C0
  obtain ⟨c0, iS0, hK0⟩ := u_known (C := RX0) (T := TX0) (N := 7) (n := 7) hts inWX0 (hts (.instantiable RX0 7) tw_430)
  obtain ⟨c1, iS1, hK1⟩ := u_known (C := RX1) (T := TX1) (N := 10) (n := 10) hts inWX1 (hts (.instantiable RX1 10) tw_293)
  obtain ⟨c2, iS2, hK2⟩ := u_known (C := RX2) (T := TX2) (N := 9) (n := 9) hts inWX2 (hts (.instantiable RX2 9) tw_395)
  obtain ⟨c3, iS3, hK3⟩ := u_known (C := RX3) (T := TX3) (N := 12) (n := 12) hts inWX3 (hts (.instantiable RX3 12) tw_231)
  obtain ⟨c4, iS4, hK4⟩ := u_known (C := RX4) (T := TX4) (N := 3) (n := 3) hts inWX4 (hts (.instantiable RX4 3) tw_352)
  obtain ⟨c5, iS5, hK5⟩ := u_known (C := RX5) (T := TX5) (N := 14) (n := 14) hts inWX5 (hts (.instantiable RX5 14) tw_68)
  obtain ⟨c6, iS6, hK6⟩ := u_known (C := RX6) (T := TX6) (N := 11) (n := 11) hts inWX6 (hts (.instantiable RX6 11) tw_189)
  obtain ⟨c7, iS7, hK7⟩ := u_known (C := RX7) (T := TX7) (N := 5) (n := 5) hts inWX7 (hts (.instantiable RX7 5) tw_35)
  obtain ⟨c8, iS8, hK8⟩ := u_known (C := RX8) (T := TX8) (N := 5) (n := 5) hts inWX8 (hts (.instantiable RX8 5) tw_43)
  obtain ⟨c9, iS9, hK9⟩ := u_known (C := RX9) (T := TX9) (N := 6) (n := 6) hts inWX9 (hts (.instantiable RX9 6) tw_460)
  obtain ⟨c10, iS10, hK10⟩ := u_known (C := RX10) (T := TX10) (N := 7) (n := 7) hts inWX10 (hts (.instantiable RX10 7) tw_346)
  obtain ⟨c11, iS11, hK11⟩ := u_known (C := RX11) (T := TX11) (N := 17) (n := 17) hts inWX11 (hts (.instantiable RX11 17) tw_27)
  obtain ⟨c12, iS12, hK12⟩ := u_known (C := RX12) (T := TX12) (N := 88) (n := 88) hts inWX12 (hts (.instantiable RX12 88) tw_1418)
  obtain ⟨cI, hI1, hI2⟩ := law_arr (hts (.arrayClass .int) tw_67)
  obtain ⟨cZ, hZ1, hZ2⟩ := law_arr (hts (.arrayClass .boolean) tw_484)
  obtain ⟨cJ, hJ1, hJ2⟩ := law_arr (hts (.arrayClass .long) tw_2091)
  obtain ⟨comp, cL, kL, o1, -, o3, o4, o5⟩ := Cond.arrayOver_spec (hts (.arrayOver (.object "MarshBells$Lesson")) tw_41)
  have hfl := flat_of_before _ hgv
  have hA0 : ∀ a : Nat, a < s.heap.size → ¬ s.heap.size ≤ a := fun a h => Nat.not_le.mpr h
  obtain ⟨adK, adV, hss, hsv⟩ := law_strs (A := fun q : Nat => s.heap.size ≤ q) hgv hA0
  have hU : (Cond.isRef (.static "java/lang/Throwable" "UNASSIGNED_STACK" "[Ljava/lang/StackTraceElement;")).before #[Value.ref b] s = true := hfl _ (by decide +kernel)
  have hN : (Cond.isRef (.static "java/lang/Throwable" "SUPPRESSED_SENTINEL" "Ljava/util/List;")).before #[Value.ref b] s = true := hfl _ (by decide +kernel)
  have hF : (Cond.isRef (.static "jdk/internal/util/Preconditions" "SIOOBE_FORMATTER" "Ljava/util/function/BiFunction;")).before #[Value.ref b] s = true := hfl _ (by decide +kernel)
  have hCS : (Cond.eq (.static "java/lang/String" "COMPACT_STRINGS" "Z") (.int 1)).before #[Value.ref b] s = true := hfl _ (by decide +kernel)
  have hNc : (Cond.not (.castable "java/lang/IllegalArgumentException" "java/util/NoSuchElementException")).before #[Value.ref b] s = true := hfl _ (by decide +kernel)
  have hsr : ∀ i : Nat, i < 17 → vk_R "MarshBells$Parser" (kSi i) (kSx i) (adK i) s := fun i hi => match i, hi with
    | 0, _ => vk_R.of (hts (.stringRef "MarshBells$Parser" (kSi 0) (kSx 0)) tw_823) (hsv 0 (by decide))
    | 1, _ => vk_R.of (hts (.stringRef "MarshBells$Parser" (kSi 1) (kSx 1)) tw_913) (hsv 1 (by decide))
    | 2, _ => vk_R.of (hts (.stringRef "MarshBells$Parser" (kSi 2) (kSx 2)) tw_918) (hsv 2 (by decide))
    | 3, _ => vk_R.of (hts (.stringRef "MarshBells$Parser" (kSi 3) (kSx 3)) tw_923) (hsv 3 (by decide))
    | 4, _ => vk_R.of (hts (.stringRef "MarshBells$Parser" (kSi 4) (kSx 4)) tw_896) (hsv 4 (by decide))
    | 5, _ => vk_R.of (hts (.stringRef "MarshBells$Parser" (kSi 5) (kSx 5)) tw_905) (hsv 5 (by decide))
    | 6, _ => vk_R.of (hts (.stringRef "MarshBells$Parser" (kSi 6) (kSx 6)) tw_906) (hsv 6 (by decide))
    | 7, _ => vk_R.of (hts (.stringRef "MarshBells$Parser" (kSi 7) (kSx 7)) tw_911) (hsv 7 (by decide))
    | 8, _ => vk_R.of (hts (.stringRef "MarshBells$Parser" (kSi 8) (kSx 8)) tw_912) (hsv 8 (by decide))
    | 9, _ => vk_R.of (hts (.stringRef "MarshBells$Parser" (kSi 9) (kSx 9)) tw_979) (hsv 9 (by decide))
    | 10, _ => vk_R.of (hts (.stringRef "MarshBells$Parser" (kSi 10) (kSx 10)) tw_978) (hsv 10 (by decide))
    | 11, _ => vk_R.of (hts (.stringRef "MarshBells$Parser" (kSi 11) (kSx 11)) tw_944) (hsv 11 (by decide))
    | 12, _ => vk_R.of (hts (.stringRef "MarshBells$Parser" (kSi 12) (kSx 12)) tw_969) (hsv 12 (by decide))
    | 13, _ => vk_R.of (hts (.stringRef "MarshBells$Parser" (kSi 13) (kSx 13)) tw_970) (hsv 13 (by decide))
    | 14, _ => vk_R.of (hts (.stringRef "MarshBells$Parser" (kSi 14) (kSx 14)) tw_971) (hsv 14 (by decide))
    | 15, _ => vk_R.of (hts (.stringRef "MarshBells$Parser" (kSi 15) (kSx 15)) tw_972) (hsv 15 (by decide))
    | 16, _ => vk_R.of (hts (.stringRef "MarshBells$Parser" (kSi 16) (kSx 16)) tw_973) (hsv 16 (by decide))
    | i + 17, hi => absurd hi (by omega)
  refine ⟨((fun k => match k with | 0 => c0 | 1 => c1 | 2 => c2 | 3 => c3 | 4 => c4 | 5 => c5 | 6 => c6 | 7 => c7 | 8 => c8 | 9 => c9 | 10 => c10 | 11 => c11 | 12 => c12 | _ => c0, fun k => match k with | 0 => iS0 | 1 => iS1 | 2 => iS2 | 3 => iS3 | 4 => iS4 | 5 => iS5 | 6 => iS6 | 7 => iS7 | 8 => iS8 | 9 => iS9 | 10 => iS10 | 11 => iS11 | 12 => iS12 | _ => iS0), cI, cZ, cL, cJ, adK, adV), hx, hb, hml, hown, ⟨kW.of hts, ⟨?_, ?_⟩, va_AO.of (hts _ tw_41), va_Nc.of hNc, hsr⟩, ⟨vx_Zqof (hts _ tw_764) (hts _ tw_14) hU hA0, vx_Zqof (hts _ tw_766) (hts _ tw_14) hN hA0, va_Zof (hts _ tw_837) (hts _ tw_19) (va_eqt hCS) hA0, va_Zqof (hts _ tw_853) (hts _ tw_21) hF hA0, hss⟩, fun q h => h⟩
  · intro k q hq
    match k, hq with
    | 0, hq => cases hq; exact hK0
    | 1, hq => cases hq; exact hK1
    | 2, hq => cases hq; exact hK2
    | 3, hq => cases hq; exact hK3
    | 4, hq => cases hq; exact hK4
    | 5, hq => cases hq; exact hK5
    | 6, hq => cases hq; exact hK6
    | 7, hq => cases hq; exact hK7
    | 8, hq => cases hq; exact hK8
    | 9, hq => cases hq; exact hK9
    | 10, hq => cases hq; exact hK10
    | 11, hq => cases hq; exact hK11
    | 12, hq => cases hq; exact hK12
    | k + 13, hq => simp [vwCl] at hq
  · intro k q hq
    match k, hq with
    | 0, hq => cases hq; exact ⟨hI1, hI2⟩
    | 1, hq => cases hq; exact ⟨hZ1, hZ2⟩
    | 2, hq => cases hq; exact ⟨fun n z => ⟨fun k h => (by cases h), kL, o3, comp, o4⟩, kL, comp, o3, o4, o1, o5⟩
    | 3, hq => cases hq; exact ⟨hJ1, hJ2⟩
    | k + 4, hq => simp [kT] at hq
