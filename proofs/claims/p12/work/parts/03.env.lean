/-! ===== my own layer: one predicate for all table words, one list of array classes, contracts over cells ===== -/
def kOk (w : Cond) : Bool := match w with
  | .fieldLinkNest .. => true
  | .methodLinkNest .. => true
  | .castable .. => true
  | .declares .. => true
  | w => goodWord w
def kW (U : State) : Prop := ∀ w ∈ lw_tbl, kOk w = true → ∀ a : Array Value, w.before a U = true
theorem kW.warm {s U : State} (hW : s.WarmedH U.vm) (h : kW s) : kW U := by
  intro w hm hk a
  have h1 := h w hm hk #[]
  unfold kOk at hk
  split at hk
  · exact va_Nw.use rfl (va_Nw.warmF hW h1)
  · exact va_Nw.use rfl (va_Nw.warmM hW h1)
  · exact va_Nw.use rfl (va_Nw.warmC hW h1)
  · exact va_Nw.use rfl (va_Nw.warmD hW h1)
  · exact word_at hW (good_of_word hk) h1
abbrev kG : Type := va_G × ClassId × ClassId × ClassId × ClassId × (Nat → Nat) × (Nat → Nat)
/-- the string constants of the parser, by their places -/
def kSt : List (Nat × String × List Int32) := [(90, "lesson", [108, 101, 115, 115, 111, 110]), (99, "walk", [119, 97, 108, 107]), (104, "stair", [115, 116, 97, 105, 114]), (109, "rule", [114, 117, 108, 101]), (168, "all", [97, 108, 108]), (177, "some", [115, 111, 109, 101]), (181, "limit", [108, 105, 109, 105, 116]), (189, "maybe", [109, 97, 121, 98, 101]), (193, "gap", [103, 97, 112]), (209, "or", [111, 114]), (217, "and", [97, 110, 100]), (219, "not", [110, 111, 116]), (236, "over", [111, 118, 101, 114]), (237, "late", [108, 97, 116, 101]), (239, "clock", [99, 108, 111, 99, 107]), (241, "room", [114, 111, 111, 109]), (242, "people", [112, 101, 111, 112, 108, 101])]
def kSi (i : Nat) : Nat := (kSt.getD i (0, "", [])).1
def kSx (i : Nat) : String := (kSt.getD i (0, "", [])).2.1
def kSb : List (List Int32) := kSt.map (fun q => q.2.2)
def kSl : List Nat := kSb.map List.length
abbrev kT (G : kG) : List (ClassId × FieldType) := [(G.2.1, .int), (G.2.2.1, .boolean), (G.2.2.2.1, .object "MarshBells$Lesson"), (G.2.2.2.2.1, .long)]
def kE (G : kG) (U : State) : Prop := kW U ∧ va_K G.1 vwCl (kT G) U ∧ va_AO "MarshBells$Lesson" U ∧ va_Nc "java/lang/IllegalArgumentException" "java/util/NoSuchElementException" U ∧ ∀ i : Nat, i < 17 → vk_R "MarshBells$Parser" (kSi i) (kSx i) (G.2.2.2.2.2.1 i) U
theorem kE.warm {G : kG} {s U : State} (hW : s.WarmedH U.vm) (h : kE G s) : kE G U := ⟨h.1.warm hW, va_K.moved hW.alike h.2.1, va_AO.moved hW.alike h.2.2.1, h.2.2.2.1.moved hW.alike, fun i hi => (h.2.2.2.2 i hi).warm hW⟩
theorem kE.w {G : kG} {s : State} (h : kE G s) {w : Cond} {args : Array Value} (hm : w ∈ lw_tbl) (hk : kOk w = true) : w.before args s = true := h.1 w hm hk args
def kSS (adK adV : Nat → Nat) (A : Nat → Prop) (U : State) (H : Heap) : Prop := ∀ i : Nat, i < 17 → vk_S 1 [kSl.getD i 0] [kSb.getD i []] (fun _ => adK i) (fun _ => adV i) A U H
def kX (G : kG) (A : Nat → Prop) (U : State) (H : Heap) : Prop := vx_Zq Bundle.tN "UNASSIGNED_STACK" Bundle.steD A U H ∧ vx_Zq Bundle.tN "SUPPRESSED_SENTINEL" Bundle.listD A U H ∧ va_Z "java/lang/String" "COMPACT_STRINGS" "Z" (.int 1) A U H ∧ va_Zq "jdk/internal/util/Preconditions" "SIOOBE_FORMATTER" "Ljava/util/function/BiFunction;" A U H ∧ kSS G.2.2.2.2.2.1 G.2.2.2.2.2.2 A U H
theorem kX.moved {G : kG} {A : Nat → Prop} {u U : State} {H : Heap} (hvm : u.vm.Alike U.vm) (h : kX G A u H) : kX G A U H := ⟨vx_Zq.moved hvm h.1, vx_Zq.moved hvm h.2.1, va_Z.moved hvm h.2.2.1, va_Zq.moved hvm h.2.2.2.1, fun i hi => vk_S.moved hvm (h.2.2.2.2 i hi)⟩
theorem kX.kept {G : kG} {A : Nat → Prop} {U : State} {H H1 : Heap} (h : kX G A U H) (hq : ∀ a : Nat, a < H.size → ¬ A a → H1[a]? = H[a]?) : kX G A U H1 := ⟨h.1.kept hq, h.2.1.kept hq, h.2.2.1.kept hq, h.2.2.2.1.kept hq, fun i hi => (h.2.2.2.2 i hi).kept hq⟩
theorem kX.narrow {G : kG} {A B : Nat → Prop} {U : State} {H : Heap} (h : kX G A U H) (hAB : ∀ q, B q → A q) : kX G B U H := ⟨h.1.narrow hAB, h.2.1.narrow hAB, h.2.2.1.narrow hAB, h.2.2.2.1.narrow hAB, fun i hi => (h.2.2.2.2 i hi).narrow hAB⟩
/-- a method's start -/
def kP (G : kG) (av : List Value) (ws : va_W) (sz : Nat) : Array Value → State → Prop := va_Pc av (fun U => U.heap.size = sz ∧ va_P G.1 vwCl ws U.heap ∧ va_D (fun _ => True) ws ∧ kE G U ∧ kX G (va_A ws sz) U U.heap)
def kB (G : kG) (A : Nat → Prop) (ws : va_W) (t : State) : Prop := va_P G.1 vwCl ws t.heap ∧ va_D A ws
def kQi (G : kG) {S : Type} (post : Int32 → S → Prop) (w : S → va_W) (A : Nat → Prop) : Array Value → State → Outcome → State → Prop := va_Qi post (fun u t => kB G A (w u) t) A
def kQl (G : kG) {S : Type} (post : Int64 → S → Prop) (w : S → va_W) (A : Nat → Prop) : Array Value → State → Outcome → State → Prop := va_Ql post (fun u t => kB G A (w u) t) A
def kQv (G : kG) {S : Type} (post : S → Prop) (w : S → va_W) (A : Nat → Prop) : Array Value → State → Outcome → State → Prop := va_Qv post (fun u t => kB G A (w u) t) A
def kXC (G : kG) {S : Type} (px : String → S → Prop) (w : S → va_W) (A : Nat → Prop) : String → State → State → Prop := vx_X (fun _ : S => True) (fun E u t => px E u ∧ kB G A (w u) t) A
/-- a method that returns; one that returns or throws -/
def kM (l : Launch) (y : MethodName) (cc : ByteArray) (nL : Nat) (ret : Option FieldType) (rm : Room) (G : kG) (av : List Value) (ws : va_W) (sz : Nat) (Q : (Nat → Prop) → Array Value → State → Outcome → State → Prop) : Prop :=
  Met l y [.code y cc nL ret] rm (kP G av ws sz) (Q (va_A ws sz)) rm.cells rm.slots (va_A ws sz)
def kMX (l : Launch) (y : MethodName) (cc : ByteArray) (nL : Nat) (ret : Option FieldType) (rm : Room) (G : kG) (av : List Value) (ws : va_W) (sz : Nat) (Q : (Nat → Prop) → Array Value → State → Outcome → State → Prop) (X : (Nat → Prop) → String → State → State → Prop) : Prop :=
  vx_Met l y [.code y cc nL ret] rm (kP G av ws sz) (Q (va_A ws sz)) (X (va_A ws sz)) rm.cells rm.slots (va_A ws sz)
/-- what a method's body knows throughout -/
def kC (G : kG) (p : Program) (s : State) (m : MethodId) (c : Code) (cc : ByteArray) (nL : Nat) (own : String) (A : Nat → Prop) : Prop :=
  p.tables.exec = Jvm.exec ∧ c.code = cc ∧ c.maxLocals = nL ∧ s.vm.findClass own = some m.cls ∧ kE G s ∧ kX G A s s.heap ∧ ∀ q, s.heap.size ≤ q → A q
theorem kP.blind {G : kG} {av : List Value} {ws : va_W} {sz : Nat} : FrameBlind (kP G av ws sz) := by
  intro a U g mk h
  obtain ⟨h1, h2, h3, h4, h5, h6⟩ := h
  have hvm : (U.calling g mk a).vm = U.vm := rfl
  have hW : U.WarmedH (U.calling g mk a).vm := by rw [hvm]; exact State.WarmedH.refl U
  exact ⟨h1, h2, h3, h4, h5.warm hW, h6.moved (Vm.Alike.refl U.vm)⟩
theorem kM.of {l : Launch} {y : MethodName} {cc : ByteArray} {nL : Nat} {ret : Option FieldType} {rm : Room} {G : kG} {av : List Value} {ws : va_W} {sz : Nat} {Q : (Nat → Prop) → Array Value → State → Outcome → State → Prop} (hy : plainName y.cls = true) (hn : (lg_sl av).length ≤ nL)
    (body : ∀ (p : Program) (e : Env) (s : State) (m : MethodId) (below : List Frame) (meth : Method) (c : Code) (A : Nat → Prop) (ls : Array Slot) (H : Heap), kC G p s m c cc nL y.cls A → meth.sig.returnType = ret → meth.locks = false → meth.name = y.name → va_P G.1 vwCl ws H → va_D A ws → va_S A s.heap H [] → lv_has ls nL (lv_args 0 av) →
      W p l e rm s m av.toArray below meth c H [] 0 0 (MQ below (Q A) av.toArray s rm.cells rm.slots A) (F0 m 0 ls [])) : kM l y cc nL ret rm G av ws sz Q := by
  refine Met.ofW (cc := cc) (maxL := nL) (ret := ret) hy rfl ?_
  intro p e s m args below meth c s₁ B hml hv
  obtain ⟨rfl, hsz, hP, hD0, hE, hX⟩ := hv
  subst hsz
  have hown : s.vm.findClass y.cls = some m.cls := findClass_of_methodNamed B.named
  rw [lg_entry_eq]
  exact body p e s m below meth c (va_A ws s.heap.size) _ s.heap ⟨B.exec, B.bytes, hml, hown, hE, hX, fun q h => Or.inr h⟩ B.returns B.notSynchronized (name_of_methodNamed B.named B.method).1 hP (hD0.self (sz := s.heap.size)) va_S.rf (lv_entry av hn)
theorem kMX.of {l : Launch} {y : MethodName} {cc : ByteArray} {nL : Nat} {ret : Option FieldType} {rm : Room} {G : kG} {av : List Value} {ws : va_W} {sz : Nat} {Q : (Nat → Prop) → Array Value → State → Outcome → State → Prop} {X : (Nat → Prop) → String → State → State → Prop} (hy : plainName y.cls = true) (hn : (lg_sl av).length ≤ nL)
    (body : ∀ (p : Program) (e : Env) (s : State) (m : MethodId) (below : List Frame) (meth : Method) (c : Code) (A : Nat → Prop) (ls : Array Slot) (H : Heap), kC G p s m c cc nL y.cls A → meth.sig.returnType = ret → meth.locks = false → (∀ x ∈ c.exceptionTable.toList, False) → va_P G.1 vwCl ws H → va_D A ws → va_S A s.heap H [] → lv_has ls nL (lv_args 0 av) →
      W p l e rm s m av.toArray below meth c H [] 0 0 (vx_MQ below (Q A) (X A) av.toArray s rm.cells rm.slots A) (F0 m 0 ls [])) : kMX l y cc nL ret rm G av ws sz Q X := by
  refine vx_ofW (cc := cc) (maxL := nL) (ret := ret) hy rfl ?_
  intro p e s m args below meth c s₁ B hml ht hv
  obtain ⟨rfl, hsz, hP, hD0, hE, hX⟩ := hv
  subst hsz
  have hown : s.vm.findClass y.cls = some m.cls := findClass_of_methodNamed B.named
  rw [lg_entry_eq]
  exact body p e s m below meth c (va_A ws s.heap.size) _ s.heap ⟨B.exec, B.bytes, hml, hown, hE, hX, fun q h => Or.inr h⟩ B.returns B.notSynchronized ht hP (hD0.self (sz := s.heap.size)) va_S.rf (lv_entry av hn)
/-- links: a call's words -/
def kLV (own : String) (index : Nat) (C : String) (y : MethodName) (bytes : ByteArray) (maxL : Nat) (ret : Option FieldType) (n : Nat) : Prop :=
  Cond.methodLink own index y ∈ lw_tbl ∧ Cond.instanceMethod y ∈ lw_tbl ∧ Cond.selects C y y ∈ lw_tbl ∧ Cond.code y bytes maxL ret ∈ lw_tbl ∧ Cond.initialized y.cls ∈ lw_tbl ∧ (y.cls = C ∧ y.cls ≠ "java/lang/invoke/MethodHandle" ∧ y.cls ≠ "java/lang/invoke/VarHandle" ∧ (parseMethodDescriptor y.desc).map (fun d => d.parameters.length) = some n)
def kLN (own : String) (index : Nat) (C : String) (y : MethodName) (host : String) (bytes : ByteArray) (maxL : Nat) (ret : Option FieldType) (n : Nat) : Prop :=
  Cond.methodLinkNest own index y host ∈ lw_tbl ∧ Cond.instanceMethod y ∈ lw_tbl ∧ Cond.selects C y y ∈ lw_tbl ∧ Cond.code y bytes maxL ret ∈ lw_tbl ∧ Cond.initialized y.cls ∈ lw_tbl ∧ (y.cls = C ∧ y.cls ≠ "java/lang/invoke/MethodHandle" ∧ y.cls ≠ "java/lang/invoke/VarHandle" ∧ (parseMethodDescriptor y.desc).map (fun d => d.parameters.length) = some n)
def kLI (own : String) (index : Nat) (y : MethodName) (bytes : ByteArray) (maxL n : Nat) : Prop :=
  Cond.methodLink own index y ∈ lw_tbl ∧ Cond.instanceMethod y ∈ lw_tbl ∧ Cond.code y bytes maxL none ∈ lw_tbl ∧ Cond.initialized y.cls ∈ lw_tbl ∧ y.name = "<init>" ∧ (y.cls ≠ "java/lang/invoke/MethodHandle" ∧ y.cls ≠ "java/lang/invoke/VarHandle" ∧ (parseMethodDescriptor y.desc).map (fun d => d.parameters.length) = some n)
def kLJ (own : String) (index : Nat) (y : MethodName) (host : String) (bytes : ByteArray) (maxL n : Nat) : Prop :=
  Cond.methodLinkNest own index y host ∈ lw_tbl ∧ Cond.instanceMethod y ∈ lw_tbl ∧ Cond.code y bytes maxL none ∈ lw_tbl ∧ Cond.initialized y.cls ∈ lw_tbl ∧ y.name = "<init>" ∧ (y.cls ≠ "java/lang/invoke/MethodHandle" ∧ y.cls ≠ "java/lang/invoke/VarHandle" ∧ (parseMethodDescriptor y.desc).map (fun d => d.parameters.length) = some n)
def kLS (own : String) (index : Nat) (y : MethodName) (bytes : ByteArray) (maxL : Nat) (ret : Option FieldType) (n : Nat) : Prop :=
  Cond.methodLink own index y ∈ lw_tbl ∧ Cond.static y ∈ lw_tbl ∧ Cond.code y bytes maxL ret ∈ lw_tbl ∧ Cond.initialized y.cls ∈ lw_tbl ∧ (y.cls ≠ "java/lang/invoke/MethodHandle" ∧ y.cls ≠ "java/lang/invoke/VarHandle" ∧ (parseMethodDescriptor y.desc).map (fun d => d.parameters.length) = some n)
def kLR (rm R : Room) (maxL cells slots : Nat) : Prop := rm.frames + 1 ≤ R.frames ∧ 8 + (maxL + 11) + rm.locals ≤ R.locals ∧ cells + rm.cells ≤ R.cells ∧ slots + rm.slots ≤ R.slots
/-- a static method with a table of its own -/
def kMH (l : Launch) (y : MethodName) (cc : ByteArray) (nL : Nat) (ret : Option FieldType) (hh : List (Nat × Nat × Nat × Nat)) (rm : Room) (G : kG) (av : List Value) (ws : va_W) (sz : Nat) (Q : (Nat → Prop) → Array Value → State → Outcome → State → Prop) : Prop :=
  Met l y [.codeWith y cc nL ret hh] rm (kP G av ws sz) (Q (va_A ws sz)) rm.cells rm.slots (va_A ws sz)
theorem kMH.of {l : Launch} {y : MethodName} {cc : ByteArray} {nL : Nat} {ret : Option FieldType} {hh : List (Nat × Nat × Nat × Nat)} {rm : Room} {G : kG} {av : List Value} {ws : va_W} {sz : Nat} {Q : (Nat → Prop) → Array Value → State → Outcome → State → Prop} (hy : plainName y.cls = true) (hn : (lg_sl av).length ≤ nL)
    (body : ∀ (p : Program) (e : Env) (s : State) (m : MethodId) (below : List Frame) (meth : Method) (c : Code) (A : Nat → Prop) (ls : Array Slot) (H : Heap), kC G p s m c cc nL y.cls A → meth.sig.returnType = ret → meth.locks = false → c.exceptionTable.toList = tableOf hh → va_P G.1 vwCl ws H → va_D A ws → va_S A s.heap H [] → lv_has ls nL (lv_args 0 av) →
      W p l e rm s m av.toArray below meth c H [] 0 0 (MQ below (Q A) av.toArray s rm.cells rm.slots A) (F0 m 0 ls [])) : kMH l y cc nL ret hh rm G av ws sz Q := by
  refine va_MetW (cc := cc) (maxL := nL) (ret := ret) (hh := hh) hy rfl ?_
  intro p e s m args below meth c s₁ B hml hv
  obtain ⟨rfl, hsz, hP, hD0, hE, hX⟩ := hv
  subst hsz
  have hown : s.vm.findClass y.cls = some m.cls := findClass_of_methodNamed B.named
  have ht := vx_table (x := y) B (atoms_spec (ws := [.codeWith y cc nL ret hh]) B.pre _ List.mem_cons_self)
  rw [lg_entry_eq]
  exact body p e s m below meth c (va_A ws s.heap.size) _ s.heap ⟨B.exec, B.bytes, hml, hown, hE, hX, fun q h => Or.inr h⟩ B.returns B.notSynchronized ht hP (hD0.self (sz := s.heap.size)) va_S.rf (lv_entry av hn)
def kLH (own : String) (index : Nat) (y : MethodName) (bytes : ByteArray) (maxL : Nat) (ret : Option FieldType) (hh : List (Nat × Nat × Nat × Nat)) (n : Nat) : Prop :=
  Cond.methodLink own index y ∈ lw_tbl ∧ Cond.static y ∈ lw_tbl ∧ Cond.codeWith y bytes maxL ret hh ∈ lw_tbl ∧ Cond.initialized y.cls ∈ lw_tbl ∧ (y.cls ≠ "java/lang/invoke/MethodHandle" ∧ y.cls ≠ "java/lang/invoke/VarHandle" ∧ (parseMethodDescriptor y.desc).map (fun d => d.parameters.length) = some n)
