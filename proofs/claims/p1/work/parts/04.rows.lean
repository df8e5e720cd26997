section KR
variable {p : Program} {l : Launch} {e : Env} {R : Room} {s : State} {m : MethodId} {args : Array Value} {below : List Frame} {meth : Method} {c : Code} {H : Heap} {locs : List Loc} {cells slots : Nat} {Q : State → Prop} {cc : ByteArray} {nL pc : Nat} {ls : Array Slot} {rest st0 : List Value} {G : kG} {own : String} {A : Nat → Prop} {ws : va_W}
theorem kOk_lay {C : String} {T : u_T} {N : Nat} {w : Cond} (h : w ∈ u_ws C T N) : kOk w = true := by
  obtain ⟨k, -, rfl⟩ := List.mem_map.mp h
  unfold u_lay
  split <;> rfl
def kFL (own : String) (index ci k : Nat) : Prop := ∃ (C : String) (T : u_T) (N : Nat), vwCl[ci]? = some (C, T, N) ∧ k < N ∧ (∀ w ∈ u_ws C T N, w ∈ lw_tbl) ∧ Cond.fieldLink own index (T k).1 (T k).2.1 (T k).2.2.1 ∈ lw_tbl
def kFN (own : String) (index ci k : Nat) : Prop := ∃ (C : String) (T : u_T) (N : Nat), vwCl[ci]? = some (C, T, N) ∧ k < N ∧ (∀ w ∈ u_ws C T N, w ∈ lw_tbl) ∧ Cond.fieldLinkNest own index (T k).1 (T k).2.1 (T k).2.2.1 "MarshBells" ∈ lw_tbl
/-- a class's fields, for stores -/
def kFT (ci k : Nat) (ty : FieldType) (fin : Bool) (O : String) : Prop := ∃ (C : String) (T : u_T) (N : Nat) (ty0 : Nat → FieldType), vwCl[ci]? = some (C, T, N) ∧ (∀ k, k < N → parseFieldDescriptor (T k).2.2.1 = some (ty0 k)) ∧ (∀ a, a < N → ∀ b, b < N → a ≠ b → (T a).2.1 ≠ (T b).2.1) ∧ (T k).2.2.2 = fin ∧ parseFieldDescriptor (T k).2.2.1 = some ty ∧ (T k).1 = O
theorem k_get {index ci k a : Nat} {fs : List Value} {v : Value} (F : kFL own index ci k) (C : kC G p s m c cc nL own A) (hP : va_P G.1 vwCl ws H) (q0 : Nat) (he : ws[q0]? = some (a, .inr (ci, fs))) (hv : fs[k]? = some v) (hdg : decode cc pc = .ok (.getfield index, 3))
    (kk : W p l e R s m args below meth c H locs cells slots Q (F0 m (pc + 3) ls (v :: rest))) : W p l e R s m args below meth c H locs cells slots Q (F0 m pc ls (.ref a :: rest)) := by
  obtain ⟨Cn, T, N, h1, h2, h3, h4⟩ := F
  obtain ⟨hx, hb, -, hown, hE, -, -⟩ := C
  exact va_get (ci := ci) hx hb (Ts := u_ws Cn T N) (fun w h => hE.w (h3 w h) (kOk_lay h)) (fun _ h => h) hown hE.2.1 hP q0 he h1 k h2 (hE.w h4 rfl) (fun _ h => h) hv hdg kk
theorem k_getN {index ci k a : Nat} {fs : List Value} {v : Value} (F : kFN own index ci k) (C : kC G p s m c cc nL own A) (hP : va_P G.1 vwCl ws H) (q0 : Nat) (he : ws[q0]? = some (a, .inr (ci, fs))) (hv : fs[k]? = some v) (hdg : decode cc pc = .ok (.getfield index, 3))
    (kk : W p l e R s m args below meth c H locs cells slots Q (F0 m (pc + 3) ls (v :: rest))) : W p l e R s m args below meth c H locs cells slots Q (F0 m pc ls (.ref a :: rest)) := by
  obtain ⟨Cn, T, N, h1, h2, h3, h4⟩ := F
  obtain ⟨hx, hb, -, hown, hE, -, -⟩ := C
  exact va_getN (ci := ci) hx hb (Ts := u_ws Cn T N) (fun w h => hE.w (h3 w h) (kOk_lay h)) (fun _ h => h) hown hE.2.1 hP q0 he h1 k h2 (hE.w h4 rfl) (fun _ h => h) hv hdg kk
theorem k_put {index ci k a : Nat} {ty : FieldType} {fs : List Value} {v : Value} {O : String} (F : kFL own index ci k) (FT : kFT ci k ty false O) (C : kC G p s m c cc nL own A) (hP : va_P G.1 vwCl ws H) (hD : va_D A ws) (hS : va_S A s.heap H locs) (q0 : Nat) (he : ws[q0]? = some (a, .inr (ci, fs))) (hl : k < fs.length) (hn : narrow ty v = v) (hfit : fits ty v = true) (hdg : decode cc pc = .ok (.putfield index, 3))
    (kk : ∀ (H1 : Heap) (locs1 : List Loc), va_P G.1 vwCl (ws.set q0 (a, .inr (ci, fs.set k v))) H1 → va_D A (ws.set q0 (a, .inr (ci, fs.set k v))) → va_S A s.heap H1 locs1 → W p l e R s m args below meth c H1 locs1 cells slots Q (F0 m (pc + 3) ls rest)) : W p l e R s m args below meth c H locs cells slots Q (F0 m pc ls (v :: .ref a :: rest)) := by
  obtain ⟨Cn, T, N, h1, h2, h3, h4⟩ := F
  obtain ⟨C2, T2, N2, ty0, f1, f2, f3, f4, f5, f6⟩ := FT
  cases Option.some.inj (h1.symm.trans f1)
  obtain ⟨hx, hb, -, hown, hE, -, -⟩ := C
  exact va_put (ci := ci) hx hb (Ts := u_ws Cn T N) (fun w h => hE.w (h3 w h) (kOk_lay h)) (fun _ h => h) ty0 f2 f3 hown hE.2.1 hP hD hS q0 he h1 k h2 (hE.w h4 rfl) (fun _ h => h) f4 f5 hn hfit hl hdg kk
theorem k_putN {index ci k a : Nat} {ty : FieldType} {fs : List Value} {v : Value} {O : String} (F : kFN own index ci k) (FT : kFT ci k ty false O) (C : kC G p s m c cc nL own A) (hP : va_P G.1 vwCl ws H) (hD : va_D A ws) (hS : va_S A s.heap H locs) (q0 : Nat) (he : ws[q0]? = some (a, .inr (ci, fs))) (hl : k < fs.length) (hn : narrow ty v = v) (hfit : fits ty v = true) (hdg : decode cc pc = .ok (.putfield index, 3))
    (kk : ∀ (H1 : Heap) (locs1 : List Loc), va_P G.1 vwCl (ws.set q0 (a, .inr (ci, fs.set k v))) H1 → va_D A (ws.set q0 (a, .inr (ci, fs.set k v))) → va_S A s.heap H1 locs1 → W p l e R s m args below meth c H1 locs1 cells slots Q (F0 m (pc + 3) ls rest)) : W p l e R s m args below meth c H locs cells slots Q (F0 m pc ls (v :: .ref a :: rest)) := by
  obtain ⟨Cn, T, N, h1, h2, h3, h4⟩ := F
  obtain ⟨C2, T2, N2, ty0, f1, f2, f3, f4, f5, f6⟩ := FT
  cases Option.some.inj (h1.symm.trans f1)
  obtain ⟨hx, hb, -, hown, hE, -, -⟩ := C
  exact va_putN (ci := ci) hx hb (Ts := u_ws Cn T N) (fun w h => hE.w (h3 w h) (kOk_lay h)) (fun _ h => h) ty0 f2 f3 hown hE.2.1 hP hD hS q0 he h1 k h2 (hE.w h4 rfl) (fun _ h => h) f4 f5 hn hfit hl hdg kk
theorem k_putF {index ci k a : Nat} {ty : FieldType} {fs : List Value} {v : Value} (F : kFL own index ci k) (FT : kFT ci k ty true own) (C : kC G p s m c cc nL own A) (hin2 : meth.name = "<init>") (hP : va_P G.1 vwCl ws H) (hD : va_D A ws) (hS : va_S A s.heap H locs) (q0 : Nat) (he : ws[q0]? = some (a, .inr (ci, fs))) (hl : k < fs.length) (hn : narrow ty v = v) (hfit : fits ty v = true) (hdg : decode cc pc = .ok (.putfield index, 3))
    (kk : ∀ (H1 : Heap) (locs1 : List Loc), va_P G.1 vwCl (ws.set q0 (a, .inr (ci, fs.set k v))) H1 → va_D A (ws.set q0 (a, .inr (ci, fs.set k v))) → va_S A s.heap H1 locs1 → W p l e R s m args below meth c H1 locs1 cells slots Q (F0 m (pc + 3) ls rest)) : W p l e R s m args below meth c H locs cells slots Q (F0 m pc ls (v :: .ref a :: rest)) := by
  obtain ⟨Cn, T, N, h1, h2, h3, h4⟩ := F
  obtain ⟨C2, T2, N2, ty0, f1, f2, f3, f4, f5, f6⟩ := FT
  cases Option.some.inj (h1.symm.trans f1)
  obtain ⟨hx, hb, -, hown, hE, -, -⟩ := C
  exact va_putF (ci := ci) hx hb (Ts := u_ws Cn T N) (fun w h => hE.w (h3 w h) (kOk_lay h)) (fun _ h => h) ty0 f2 f3 hown hE.2.1 hP hD hS q0 he h1 k h2 (hE.w h4 rfl) (fun _ h => h) f4 hin2 f6 f5 hn hfit hl hdg kk
theorem k_iald {a n : Nat} {f : Nat → Int32} {i : Int32} (C : kC G p s m c cc nL own A) (hP : va_P G.1 vwCl ws H) (q0 : Nat) (ha : ws[q0]? = some (a, .inl (G.2.1, n, .inl f))) (hin : vp_in i n) (hdg : decode cc pc = .ok (.iaload, 1)) (kk : W p l e R s m args below meth c H locs cells slots Q (F0 m (pc + 1) ls (.int (f i.toNatClampNeg) :: rest))) : W p l e R s m args below meth c H locs cells slots Q (F0 m pc ls (.int i :: .ref a :: rest)) :=
  va_iald C.1 C.2.1 C.2.2.2.2.1.2.1 hP q0 0 ha rfl hin hdg kk
theorem k_iast {a n : Nat} {f : Nat → Int32} {i x : Int32} (C : kC G p s m c cc nL own A) (hP : va_P G.1 vwCl ws H) (hD : va_D A ws) (hS : va_S A s.heap H locs) (q0 : Nat) (ha : ws[q0]? = some (a, .inl (G.2.1, n, .inl f))) (hin : vp_in i n) (hdg : decode cc pc = .ok (.iastore, 1)) (kk : ∀ (H1 : Heap) (locs1 : List Loc), va_P G.1 vwCl (ws.set q0 (a, .inl (G.2.1, n, .inl (upd f i.toNatClampNeg x)))) H1 → va_D A (ws.set q0 (a, .inl (G.2.1, n, .inl (upd f i.toNatClampNeg x)))) → va_S A s.heap H1 locs1 → W p l e R s m args below meth c H1 locs1 cells slots Q (F0 m (pc + 1) ls rest)) : W p l e R s m args below meth c H locs cells slots Q (F0 m pc ls (.int x :: .int i :: .ref a :: rest)) :=
  va_iast C.1 C.2.1 C.2.2.2.2.1.2.1 hP hD hS q0 0 ha rfl hin hdg kk
theorem k_zald {a n : Nat} {f : Nat → Int32} {i : Int32} (C : kC G p s m c cc nL own A) (hP : va_P G.1 vwCl ws H) (q0 : Nat) (ha : ws[q0]? = some (a, .inl (G.2.2.1, n, .inl f))) (hin : vp_in i n) (hdg : decode cc pc = .ok (.baload, 1)) (kk : W p l e R s m args below meth c H locs cells slots Q (F0 m (pc + 1) ls (.int (f i.toNatClampNeg) :: rest))) : W p l e R s m args below meth c H locs cells slots Q (F0 m pc ls (.int i :: .ref a :: rest)) :=
  va_zald C.1 C.2.1 C.2.2.2.2.1.2.1 hP q0 1 ha rfl hin hdg kk
theorem k_zast {a n : Nat} {f : Nat → Int32} {i x : Int32} (C : kC G p s m c cc nL own A) (hP : va_P G.1 vwCl ws H) (hD : va_D A ws) (hS : va_S A s.heap H locs) (q0 : Nat) (ha : ws[q0]? = some (a, .inl (G.2.2.1, n, .inl f))) (hin : vp_in i n) (hdg : decode cc pc = .ok (.bastore, 1)) (kk : ∀ (H1 : Heap) (locs1 : List Loc), va_P G.1 vwCl (ws.set q0 (a, .inl (G.2.2.1, n, .inl (upd f i.toNatClampNeg (vp_nar .boolean x))))) H1 → va_D A (ws.set q0 (a, .inl (G.2.2.1, n, .inl (upd f i.toNatClampNeg (vp_nar .boolean x))))) → va_S A s.heap H1 locs1 → W p l e R s m args below meth c H1 locs1 cells slots Q (F0 m (pc + 1) ls rest)) : W p l e R s m args below meth c H locs cells slots Q (F0 m pc ls (.int x :: .int i :: .ref a :: rest)) :=
  va_zast C.1 C.2.1 C.2.2.2.2.1.2.1 hP hD hS q0 1 ha rfl hin hdg kk
theorem k_lald {a n : Nat} {f : Nat → Int64} {i : Int32} (C : kC G p s m c cc nL own A) (hP : va_P G.1 vwCl ws H) (q0 : Nat) (ha : ws[q0]? = some (a, .inl (G.2.2.2.2, n, .inr (.inl f)))) (hin : vp_in i n) (hdg : decode cc pc = .ok (.laload, 1)) (kk : W p l e R s m args below meth c H locs cells slots Q (F0 m (pc + 1) ls (.long (f i.toNatClampNeg) :: rest))) : W p l e R s m args below meth c H locs cells slots Q (F0 m pc ls (.int i :: .ref a :: rest)) :=
  va_lald C.1 C.2.1 C.2.2.2.2.1.2.1 hP q0 3 ha rfl hin hdg kk
theorem k_last {a n : Nat} {f : Nat → Int64} {i : Int32} {x : Int64} (C : kC G p s m c cc nL own A) (hP : va_P G.1 vwCl ws H) (hD : va_D A ws) (hS : va_S A s.heap H locs) (q0 : Nat) (ha : ws[q0]? = some (a, .inl (G.2.2.2.2, n, .inr (.inl f)))) (hin : vp_in i n) (hdg : decode cc pc = .ok (.lastore, 1)) (kk : ∀ (H1 : Heap) (locs1 : List Loc), va_P G.1 vwCl (ws.set q0 (a, .inl (G.2.2.2.2, n, .inr (.inl (vp_updL f i.toNatClampNeg x))))) H1 → va_D A (ws.set q0 (a, .inl (G.2.2.2.2, n, .inr (.inl (vp_updL f i.toNatClampNeg x))))) → va_S A s.heap H1 locs1 → W p l e R s m args below meth c H1 locs1 cells slots Q (F0 m (pc + 1) ls rest)) : W p l e R s m args below meth c H locs cells slots Q (F0 m pc ls (.long x :: .int i :: .ref a :: rest)) :=
  va_last C.1 C.2.1 C.2.2.2.2.1.2.1 hP hD hS q0 3 ha rfl hin hdg kk
theorem k_alen {a n : Nat} {f : Nat → Int32} {v : Int32} (C : kC G p s m c cc nL own A) (hP : va_P G.1 vwCl ws H) (q0 : Nat) (ha : ws[q0]? = some (a, .inl (G.2.1, n, .inl f))) (hv : Int32.ofNat n = v) (hdg : decode cc pc = .ok (.arraylength, 1)) (kk : W p l e R s m args below meth c H locs cells slots Q (F0 m (pc + 1) ls (.int v :: rest))) : W p l e R s m args below meth c H locs cells slots Q (F0 m pc ls (.ref a :: rest)) :=
  va_alen C.1 C.2.1 C.2.2.2.2.1.2.1 hP q0 0 ha rfl hv hdg kk
theorem k_newI {N' : Nat} {n : Int32} (hm : Cond.arrayClass .int ∈ lw_tbl) (C : kC G p s m c cc nL own A) (hP : va_P G.1 vwCl ws H) (hD : va_D A ws) (hS : va_S A s.heap H locs) (hn : ¬ n < 0) (hN : n.toNatClampNeg = N') (hbytes : N' * componentBytes .int ≤ 536870912) (hcells : cells + 1 ≤ R.cells) (hslots : slots + N' ≤ R.slots) (hdg : decode cc pc = .ok (.newarray .int, 2))
    (kk : ∀ (q : Nat) (H1 : Heap), va_P G.1 vwCl (ws ++ [(q, .inl (G.2.1, N', .inl (fun _ => 0)))]) H1 → va_D A (ws ++ [(q, .inl (G.2.1, N', .inl (fun _ => 0)))]) → va_S A s.heap H1 locs → W p l e R s m args below meth c H1 locs (cells + 1) (slots + N') Q (F0 m (pc + 2) ls (.ref q :: rest))) : W p l e R s m args below meth c H locs cells slots Q (F0 m pc ls (.int n :: rest)) := by
  obtain ⟨hx, hb, -, hown, hE, -, hA⟩ := C
  refine va_newa hx hb (atype := .int) (hE.w (w := .arrayClass .int) hm rfl) rfl hE.2.1 hP hD hS hA (a0 := (N', .inl (fun _ => 0))) (fun _ => rfl) hn hN hbytes hcells hslots hdg (fun q cA H1 hK' hP' hD' hS' => ?_)
  have e1 : s.vm.findClass ("[" ++ FieldType.toString .int) = some cA := (hK'.2 4 _ rfl).2
  have e2 : s.vm.findClass ("[" ++ FieldType.toString .int) = some G.2.1 := (hE.2.1.2 0 _ rfl).2
  cases Option.some.inj (e1.symm.trans e2)
  exact kk q H1 hP' hD' hS'
theorem k_newZ {N' : Nat} {n : Int32} (hm : Cond.arrayClass .boolean ∈ lw_tbl) (C : kC G p s m c cc nL own A) (hP : va_P G.1 vwCl ws H) (hD : va_D A ws) (hS : va_S A s.heap H locs) (hn : ¬ n < 0) (hN : n.toNatClampNeg = N') (hbytes : N' * componentBytes .boolean ≤ 536870912) (hcells : cells + 1 ≤ R.cells) (hslots : slots + N' ≤ R.slots) (hdg : decode cc pc = .ok (.newarray .boolean, 2))
    (kk : ∀ (q : Nat) (H1 : Heap), va_P G.1 vwCl (ws ++ [(q, .inl (G.2.2.1, N', .inl (fun _ => 0)))]) H1 → va_D A (ws ++ [(q, .inl (G.2.2.1, N', .inl (fun _ => 0)))]) → va_S A s.heap H1 locs → W p l e R s m args below meth c H1 locs (cells + 1) (slots + N') Q (F0 m (pc + 2) ls (.ref q :: rest))) : W p l e R s m args below meth c H locs cells slots Q (F0 m pc ls (.int n :: rest)) := by
  obtain ⟨hx, hb, -, hown, hE, -, hA⟩ := C
  refine va_newa hx hb (atype := .boolean) (hE.w (w := .arrayClass .boolean) hm rfl) rfl hE.2.1 hP hD hS hA (a0 := (N', .inl (fun _ => 0))) (fun _ => rfl) hn hN hbytes hcells hslots hdg (fun q cA H1 hK' hP' hD' hS' => ?_)
  have e1 : s.vm.findClass ("[" ++ FieldType.toString .boolean) = some cA := (hK'.2 4 _ rfl).2
  have e2 : s.vm.findClass ("[" ++ FieldType.toString .boolean) = some G.2.2.1 := (hE.2.1.2 1 _ rfl).2
  cases Option.some.inj (e1.symm.trans e2)
  exact kk q H1 hP' hD' hS'
theorem k_newJ {N' : Nat} {n : Int32} (hm : Cond.arrayClass .long ∈ lw_tbl) (C : kC G p s m c cc nL own A) (hP : va_P G.1 vwCl ws H) (hD : va_D A ws) (hS : va_S A s.heap H locs) (hn : ¬ n < 0) (hN : n.toNatClampNeg = N') (hbytes : N' * componentBytes .long ≤ 536870912) (hcells : cells + 1 ≤ R.cells) (hslots : slots + N' ≤ R.slots) (hdg : decode cc pc = .ok (.newarray .long, 2))
    (kk : ∀ (q : Nat) (H1 : Heap), va_P G.1 vwCl (ws ++ [(q, .inl (G.2.2.2.2, N', .inr (.inl (fun _ => 0))))]) H1 → va_D A (ws ++ [(q, .inl (G.2.2.2.2, N', .inr (.inl (fun _ => 0))))]) → va_S A s.heap H1 locs → W p l e R s m args below meth c H1 locs (cells + 1) (slots + N') Q (F0 m (pc + 2) ls (.ref q :: rest))) : W p l e R s m args below meth c H locs cells slots Q (F0 m pc ls (.int n :: rest)) := by
  obtain ⟨hx, hb, -, hown, hE, -, hA⟩ := C
  refine va_newa hx hb (atype := .long) (hE.w (w := .arrayClass .long) hm rfl) rfl hE.2.1 hP hD hS hA (a0 := (N', .inr (.inl (fun _ => 0)))) (fun _ => rfl) hn hN hbytes hcells hslots hdg (fun q cA H1 hK' hP' hD' hS' => ?_)
  have e1 : s.vm.findClass ("[" ++ FieldType.toString .long) = some cA := (hK'.2 4 _ rfl).2
  have e2 : s.vm.findClass ("[" ++ FieldType.toString .long) = some G.2.2.2.2 := (hE.2.1.2 3 _ rfl).2
  cases Option.some.inj (e1.symm.trans e2)
  exact kk q H1 hP' hD' hS'
theorem k_newL {N' index : Nat} {n : Int32} (hm : Cond.classLink own index "MarshBells$Lesson" ∈ lw_tbl) (C : kC G p s m c cc nL own A) (hP : va_P G.1 vwCl ws H) (hD : va_D A ws) (hS : va_S A s.heap H locs) (hn : ¬ n < 0) (hN : n.toNatClampNeg = N') (hbytes : N' * 4 ≤ 536870912) (hcells : cells + 1 ≤ R.cells) (hslots : slots + N' ≤ R.slots) (hdg : decode cc pc = .ok (.anewarray index, 3))
    (kk : ∀ (q : Nat) (H1 : Heap), va_P G.1 vwCl (ws ++ [(q, .inl (G.2.2.2.1, N', .inr (.inr (.inr (.inr (fun _ => none))))))]) H1 → va_D A (ws ++ [(q, .inl (G.2.2.2.1, N', .inr (.inr (.inr (.inr (fun _ => none))))))]) → va_S A s.heap H1 locs → W p l e R s m args below meth c H1 locs (cells + 1) (slots + N') Q (F0 m (pc + 3) ls (.ref q :: rest))) : W p l e R s m args below meth c H locs cells slots Q (F0 m pc ls (.int n :: rest)) := by
  obtain ⟨hx, hb, -, hown, hE, -, hA⟩ := C
  refine va_newq hx hb hown (hE.w hm rfl) hE.2.2 hE.2.1 hP hD hS hA hn hN hbytes hcells hslots hdg (fun q cA H1 hK' hP' hD' hS' => ?_)
  obtain ⟨kA, comp, -, -, -, e1⟩ : va_RA s cA (.object "MarshBells$Lesson") := (hK'.2 4 _ rfl).2
  obtain ⟨kA2, comp2, -, -, -, e2⟩ : va_RA s G.2.2.2.1 (.object "MarshBells$Lesson") := (hE.2.1.2 2 _ rfl).2
  cases Option.some.inj (e1.symm.trans e2)
  exact kk q H1 hP' hD' hS'
theorem k_new {index ci N : Nat} {Cn : String} {T : u_T} {fs : List Value} (ty : Nat → FieldType) (hin : ∀ w ∈ u_ws Cn T N, w ∈ lw_tbl) (hty : ∀ k, k < N → parseFieldDescriptor (T k).2.2.1 = some (ty k)) (hm : Cond.classLink own index Cn ∈ lw_tbl ∧ Cond.instantiable Cn N ∈ lw_tbl ∧ Cond.initialized Cn ∈ lw_tbl) (hc : vwCl[ci]? = some (Cn, T, N)) (hfs : ∀ j, j < N → defaultValue (ty j) = vp_V fs j)
    (C : kC G p s m c cc nL own A) (hP : va_P G.1 vwCl ws H) (hD : va_D A ws) (hS : va_S A s.heap H locs) (hcells : cells + 1 ≤ R.cells) (hslots : slots + N ≤ R.slots) (hdg : decode cc pc = .ok (.new index, 3))
    (kk : ∀ (q : Nat) (H1 : Heap), va_P G.1 vwCl (ws ++ [(q, .inr (ci, fs))]) H1 → va_D A (ws ++ [(q, .inr (ci, fs))]) → va_S A s.heap H1 locs → W p l e R s m args below meth c H1 locs (cells + 1) (slots + N) Q (F0 m (pc + 3) ls (.ref q :: rest))) : W p l e R s m args below meth c H locs cells slots Q (F0 m pc ls rest) := by
  obtain ⟨hx, hb, -, hown, hE, -, hA⟩ := C
  exact va_new (ci := ci) hx hb (Ts := u_ws Cn T N) (fun w h => hE.w (hin w h) (kOk_lay h)) (fun _ h => h) ty hty hown (hE.w hm.1 rfl) (hE.w hm.2.1 rfl) (hE.w hm.2.2 rfl) hE.2.1 hP hD hS hA hc hfs hcells hslots hdg kk
theorem k_obj {index a : Nat} (hm : Cond.methodLink own index Lib.objectInit ∈ lw_tbl ∧ Cond.instanceMethod Lib.objectInit ∈ lw_tbl ∧ Cond.code Lib.objectInit ⟨#[0xb1]⟩ 1 none ∈ lw_tbl) (C : kC G p s m c cc nL own A) (hsz : ls.size = nL) (hdg : decode cc pc = .ok (.invokespecial index, 3)) (hf : 1 ≤ R.frames) (hl : (rest.map fun v => v.category).sum + 12 ≤ R.locals)
    (kk : W p l e R s m args below meth c H locs cells slots Q (F0 m (pc + 3) ls rest)) : W p l e R s m args below meth c H locs cells slots Q (F0 m pc ls (.ref a :: rest)) := by
  obtain ⟨hx, hb, hml, hown, hE, -, hA⟩ := C
  exact W.objInit hx hb hown (hE.w hm.1 rfl) (hE.w hm.2.1 rfl) (hE.w hm.2.2 rfl) rfl (hsz.trans hml.symm) rfl hdg hf (by show 2 * 0 + _ + 12 ≤ _; omega) kk
theorem k_fm {ws wc : va_W} {is : List Nat} (h : is.map (fun i => ws[i]?) = wc.map some) : is.filterMap (fun i => ws[i]?) = wc := by
  have e : is.filterMap (fun i => ws[i]?) = (is.map (fun i => ws[i]?)).filterMap id := by rw [List.filterMap_map]; rfl
  rw [e, h, List.filterMap_map]
  exact List.filterMap_some
theorem k_cut {wc : va_W} (C : kC G p s m c cc nL own A) (hP : va_P G.1 vwCl ws H) (hD : va_D A ws) (hS : va_S A s.heap H locs) (isC : List Nat) (hC : isC.map (fun i => ws[i]?) = wc.map some) (hn0 : va_nd isC = true) (av : List Value) :
    va_P G.1 vwCl wc H ∧ (∀ q, va_A wc H.size q → A q) ∧ ∀ U : State, U.heap = H → s.WarmedH U.vm → kP G av wc H.size av.toArray U := by
  obtain ⟨hx, hb, hml, hown, hE, hXx, hA⟩ := C
  have hPc : va_P G.1 vwCl wc H := hP.sub isC (k_fm hC)
  have hDc : va_D A wc := hD.sub isC hn0 hC
  have hFc := va_free (wc := wc) hD hS hA isC hC
  refine ⟨hPc, hFc, fun U hU hW => ⟨rfl, by rw [hU], by rw [hU]; exact hPc, hDc.weaken (fun _ _ _ _ => trivial), hE.warm hW, ?_⟩⟩
  rw [hU]
  exact ((hXx.kept hS.2.1).narrow hFc).moved hW.alike
theorem k_callVi {S : Type} {post : Int32 → S → Prop} {w : S → va_W} {index n maxL : Nat} {y : MethodName} {bytes : ByteArray} {rm : Room} {b : Nat} {As : List Value} {wc wr : va_W} {Cn : String} {ret : Option FieldType} (L : kLV own index Cn y bytes maxL ret n) (C : kC G p s m c cc nL own A) (hM : kM l y bytes maxL ret rm G (.ref b :: As) wc H.size (kQi G post w)) (hR : kLR rm R maxL cells slots) (hP : va_P G.1 vwCl ws H) (hD : va_D A ws) (hS : va_S A s.heap H locs) (isC isR : List Nat) (hC : isC.map (fun i => ws[i]?) = wc.map some) (hRr : isR.map (fun i => ws[i]?) = wr.map some) (hn0 : va_nd isC = true) (hn1 : va_nd isR = true) (hdis : ∀ i ∈ isR, i ∉ isC) (q0 ci : Nat) {cq : u_T × Nat} (hq : vwCl[ci]? = some (Cn, cq)) {fs : List Value} (he : wc[q0]? = some (b, .inr (ci, fs))) (hn : As.length = n) (hsz : ls.size = nL) (hst : st0 = As.reverse ++ .ref b :: rest) (hW : (rest.map fun v => v.category).sum ≤ 8) (hdg : decode cc pc = .ok (.invokevirtual index, 3))
    (kk : ∀ (r : Int32) (u : S) (H1 : Heap) (locs1 : List Loc), post r u → va_P G.1 vwCl (wr ++ w u) H1 → va_D A (wr ++ w u) → va_S A s.heap H1 locs1 → W p l e R s m args below meth c H1 locs1 (cells + rm.cells) (slots + rm.slots) Q (F0 m (pc + 3) ls (.int r :: rest))) : W p l e R s m args below meth c H locs cells slots Q (F0 m pc ls st0) := by
  obtain ⟨hPc, hFc, hpre⟩ := k_cut C hP hD hS isC hC hn0 (.ref b :: As)
  obtain ⟨hx, hb, hml, hown, hE, hXx, hA⟩ := C
  obtain ⟨w1, w2, w3, w4, w5, w6⟩ := L
  refine va_calli (a := (.ref b :: As).toArray) (va_runV (As := As) (rest := rest) (Ts := []) ⟨hx, hb, hml, hown, fun _ h => nomatch h⟩ hM ⟨⟨rfl, rfl, hR.1, hR.2.1, (fun w hw a' U hW => by rw [List.mem_singleton.mp hw]; exact (hE.warm hW).w w4 rfl), List.mem_cons_self, hE.w w4 rfl, hE.w w5 rfl, ⟨w6.2.1, w6.2.2.1⟩, (fun sig h => by have h2 := w6.2.2.2; rw [h] at h2; exact (Option.some.inj h2).symm), hE.w w1 rfl⟩, hE.w w2 rfl, hE.w w3 rfl⟩ ⟨kP.blind, va_recv hE.2.1 hPc hq he, hpre⟩ rfl hn hsz hst (lv_room hW) hdg ⟨hR.2.2.1, hR.2.2.2⟩) hS (fun q _ h => hFc q h) hFc (fun r u t H1 locs1 ht hvm hw hB hz1 hk1 hS1 => ?_)
  obtain ⟨hB1, hB2⟩ := hB
  rw [ht] at hB1
  obtain ⟨hP1, hD1⟩ := va_join hP hD isC isR hC hRr hn1 hdis hk1 hFc hB1 hB2
  exact kk r u H1 locs1 hw hP1 hD1 hS1
theorem k_callVv {S : Type} {post : S → Prop} {w : S → va_W} {index n maxL : Nat} {y : MethodName} {bytes : ByteArray} {rm : Room} {b : Nat} {As : List Value} {wc wr : va_W} {Cn : String} {ret : Option FieldType} (L : kLV own index Cn y bytes maxL ret n) (C : kC G p s m c cc nL own A) (hM : kM l y bytes maxL ret rm G (.ref b :: As) wc H.size (kQv G post w)) (hR : kLR rm R maxL cells slots) (hP : va_P G.1 vwCl ws H) (hD : va_D A ws) (hS : va_S A s.heap H locs) (isC isR : List Nat) (hC : isC.map (fun i => ws[i]?) = wc.map some) (hRr : isR.map (fun i => ws[i]?) = wr.map some) (hn0 : va_nd isC = true) (hn1 : va_nd isR = true) (hdis : ∀ i ∈ isR, i ∉ isC) (q0 ci : Nat) {cq : u_T × Nat} (hq : vwCl[ci]? = some (Cn, cq)) {fs : List Value} (he : wc[q0]? = some (b, .inr (ci, fs))) (hn : As.length = n) (hsz : ls.size = nL) (hst : st0 = As.reverse ++ .ref b :: rest) (hW : (rest.map fun v => v.category).sum ≤ 8) (hdg : decode cc pc = .ok (.invokevirtual index, 3))
    (kk : ∀ (u : S) (H1 : Heap) (locs1 : List Loc), post u → va_P G.1 vwCl (wr ++ w u) H1 → va_D A (wr ++ w u) → va_S A s.heap H1 locs1 → W p l e R s m args below meth c H1 locs1 (cells + rm.cells) (slots + rm.slots) Q (F0 m (pc + 3) ls rest)) : W p l e R s m args below meth c H locs cells slots Q (F0 m pc ls st0) := by
  obtain ⟨hPc, hFc, hpre⟩ := k_cut C hP hD hS isC hC hn0 (.ref b :: As)
  obtain ⟨hx, hb, hml, hown, hE, hXx, hA⟩ := C
  obtain ⟨w1, w2, w3, w4, w5, w6⟩ := L
  refine va_callv (a := (.ref b :: As).toArray) (va_runV (As := As) (rest := rest) (Ts := []) ⟨hx, hb, hml, hown, fun _ h => nomatch h⟩ hM ⟨⟨rfl, rfl, hR.1, hR.2.1, (fun w hw a' U hW => by rw [List.mem_singleton.mp hw]; exact (hE.warm hW).w w4 rfl), List.mem_cons_self, hE.w w4 rfl, hE.w w5 rfl, ⟨w6.2.1, w6.2.2.1⟩, (fun sig h => by have h2 := w6.2.2.2; rw [h] at h2; exact (Option.some.inj h2).symm), hE.w w1 rfl⟩, hE.w w2 rfl, hE.w w3 rfl⟩ ⟨kP.blind, va_recv hE.2.1 hPc hq he, hpre⟩ rfl hn hsz hst (lv_room hW) hdg ⟨hR.2.2.1, hR.2.2.2⟩) hS (fun q _ h => hFc q h) hFc (fun u t H1 locs1 ht hvm hw hB hz1 hk1 hS1 => ?_)
  obtain ⟨hB1, hB2⟩ := hB
  rw [ht] at hB1
  obtain ⟨hP1, hD1⟩ := va_join hP hD isC isR hC hRr hn1 hdis hk1 hFc hB1 hB2
  exact kk u H1 locs1 hw hP1 hD1 hS1
theorem k_callVl {S : Type} {post : Int64 → S → Prop} {w : S → va_W} {index n maxL : Nat} {y : MethodName} {bytes : ByteArray} {rm : Room} {b : Nat} {As : List Value} {wc wr : va_W} {Cn : String} {ret : Option FieldType} (L : kLV own index Cn y bytes maxL ret n) (C : kC G p s m c cc nL own A) (hM : kM l y bytes maxL ret rm G (.ref b :: As) wc H.size (kQl G post w)) (hR : kLR rm R maxL cells slots) (hP : va_P G.1 vwCl ws H) (hD : va_D A ws) (hS : va_S A s.heap H locs) (isC isR : List Nat) (hC : isC.map (fun i => ws[i]?) = wc.map some) (hRr : isR.map (fun i => ws[i]?) = wr.map some) (hn0 : va_nd isC = true) (hn1 : va_nd isR = true) (hdis : ∀ i ∈ isR, i ∉ isC) (q0 ci : Nat) {cq : u_T × Nat} (hq : vwCl[ci]? = some (Cn, cq)) {fs : List Value} (he : wc[q0]? = some (b, .inr (ci, fs))) (hn : As.length = n) (hsz : ls.size = nL) (hst : st0 = As.reverse ++ .ref b :: rest) (hW : (rest.map fun v => v.category).sum ≤ 8) (hdg : decode cc pc = .ok (.invokevirtual index, 3))
    (kk : ∀ (r : Int64) (u : S) (H1 : Heap) (locs1 : List Loc), post r u → va_P G.1 vwCl (wr ++ w u) H1 → va_D A (wr ++ w u) → va_S A s.heap H1 locs1 → W p l e R s m args below meth c H1 locs1 (cells + rm.cells) (slots + rm.slots) Q (F0 m (pc + 3) ls (.long r :: rest))) : W p l e R s m args below meth c H locs cells slots Q (F0 m pc ls st0) := by
  obtain ⟨hPc, hFc, hpre⟩ := k_cut C hP hD hS isC hC hn0 (.ref b :: As)
  obtain ⟨hx, hb, hml, hown, hE, hXx, hA⟩ := C
  obtain ⟨w1, w2, w3, w4, w5, w6⟩ := L
  refine va_calll (a := (.ref b :: As).toArray) (va_runV (As := As) (rest := rest) (Ts := []) ⟨hx, hb, hml, hown, fun _ h => nomatch h⟩ hM ⟨⟨rfl, rfl, hR.1, hR.2.1, (fun w hw a' U hW => by rw [List.mem_singleton.mp hw]; exact (hE.warm hW).w w4 rfl), List.mem_cons_self, hE.w w4 rfl, hE.w w5 rfl, ⟨w6.2.1, w6.2.2.1⟩, (fun sig h => by have h2 := w6.2.2.2; rw [h] at h2; exact (Option.some.inj h2).symm), hE.w w1 rfl⟩, hE.w w2 rfl, hE.w w3 rfl⟩ ⟨kP.blind, va_recv hE.2.1 hPc hq he, hpre⟩ rfl hn hsz hst (lv_room hW) hdg ⟨hR.2.2.1, hR.2.2.2⟩) hS (fun q _ h => hFc q h) hFc (fun r u t H1 locs1 ht hvm hw hB hz1 hk1 hS1 => ?_)
  obtain ⟨hB1, hB2⟩ := hB
  rw [ht] at hB1
  obtain ⟨hP1, hD1⟩ := va_join hP hD isC isR hC hRr hn1 hdis hk1 hFc hB1 hB2
  exact kk r u H1 locs1 hw hP1 hD1 hS1
theorem k_callNi {S : Type} {post : Int32 → S → Prop} {w : S → va_W} {index n maxL : Nat} {y : MethodName} {bytes : ByteArray} {rm : Room} {b : Nat} {As : List Value} {wc wr : va_W} {Cn host : String} {ret : Option FieldType} (L : kLN own index Cn y host bytes maxL ret n) (C : kC G p s m c cc nL own A) (hM : kM l y bytes maxL ret rm G (.ref b :: As) wc H.size (kQi G post w)) (hR : kLR rm R maxL cells slots) (hP : va_P G.1 vwCl ws H) (hD : va_D A ws) (hS : va_S A s.heap H locs) (isC isR : List Nat) (hC : isC.map (fun i => ws[i]?) = wc.map some) (hRr : isR.map (fun i => ws[i]?) = wr.map some) (hn0 : va_nd isC = true) (hn1 : va_nd isR = true) (hdis : ∀ i ∈ isR, i ∉ isC) (q0 ci : Nat) {cq : u_T × Nat} (hq : vwCl[ci]? = some (Cn, cq)) {fs : List Value} (he : wc[q0]? = some (b, .inr (ci, fs))) (hn : As.length = n) (hsz : ls.size = nL) (hst : st0 = As.reverse ++ .ref b :: rest) (hW : (rest.map fun v => v.category).sum ≤ 8) (hdg : decode cc pc = .ok (.invokevirtual index, 3))
    (kk : ∀ (r : Int32) (u : S) (H1 : Heap) (locs1 : List Loc), post r u → va_P G.1 vwCl (wr ++ w u) H1 → va_D A (wr ++ w u) → va_S A s.heap H1 locs1 → W p l e R s m args below meth c H1 locs1 (cells + rm.cells) (slots + rm.slots) Q (F0 m (pc + 3) ls (.int r :: rest))) : W p l e R s m args below meth c H locs cells slots Q (F0 m pc ls st0) := by
  obtain ⟨hPc, hFc, hpre⟩ := k_cut C hP hD hS isC hC hn0 (.ref b :: As)
  obtain ⟨hx, hb, hml, hown, hE, hXx, hA⟩ := C
  obtain ⟨w1, w2, w3, w4, w5, w6⟩ := L
  refine va_calli (a := (.ref b :: As).toArray) (va_runVN (As := As) (rest := rest) (Ts := []) ⟨hx, hb, hml, hown, fun _ h => nomatch h⟩ hM ⟨⟨⟨rfl, rfl, hR.1, hR.2.1, (fun w hw a' U hW => by rw [List.mem_singleton.mp hw]; exact (hE.warm hW).w w4 rfl), List.mem_cons_self⟩, hE.w w4 rfl, hE.w w5 rfl, ⟨w6.2.1, w6.2.2.1⟩, (fun sig h => by have h2 := w6.2.2.2; rw [h] at h2; exact (Option.some.inj h2).symm), hE.w w1 rfl⟩, hE.w w2 rfl, hE.w w3 rfl⟩ ⟨kP.blind, va_recv hE.2.1 hPc hq he, hpre⟩ rfl hn hsz hst (lv_room hW) hdg ⟨hR.2.2.1, hR.2.2.2⟩) hS (fun q _ h => hFc q h) hFc (fun r u t H1 locs1 ht hvm hw hB hz1 hk1 hS1 => ?_)
  obtain ⟨hB1, hB2⟩ := hB
  rw [ht] at hB1
  obtain ⟨hP1, hD1⟩ := va_join hP hD isC isR hC hRr hn1 hdis hk1 hFc hB1 hB2
  exact kk r u H1 locs1 hw hP1 hD1 hS1
theorem k_callNv {S : Type} {post : S → Prop} {w : S → va_W} {index n maxL : Nat} {y : MethodName} {bytes : ByteArray} {rm : Room} {b : Nat} {As : List Value} {wc wr : va_W} {Cn host : String} {ret : Option FieldType} (L : kLN own index Cn y host bytes maxL ret n) (C : kC G p s m c cc nL own A) (hM : kM l y bytes maxL ret rm G (.ref b :: As) wc H.size (kQv G post w)) (hR : kLR rm R maxL cells slots) (hP : va_P G.1 vwCl ws H) (hD : va_D A ws) (hS : va_S A s.heap H locs) (isC isR : List Nat) (hC : isC.map (fun i => ws[i]?) = wc.map some) (hRr : isR.map (fun i => ws[i]?) = wr.map some) (hn0 : va_nd isC = true) (hn1 : va_nd isR = true) (hdis : ∀ i ∈ isR, i ∉ isC) (q0 ci : Nat) {cq : u_T × Nat} (hq : vwCl[ci]? = some (Cn, cq)) {fs : List Value} (he : wc[q0]? = some (b, .inr (ci, fs))) (hn : As.length = n) (hsz : ls.size = nL) (hst : st0 = As.reverse ++ .ref b :: rest) (hW : (rest.map fun v => v.category).sum ≤ 8) (hdg : decode cc pc = .ok (.invokevirtual index, 3))
    (kk : ∀ (u : S) (H1 : Heap) (locs1 : List Loc), post u → va_P G.1 vwCl (wr ++ w u) H1 → va_D A (wr ++ w u) → va_S A s.heap H1 locs1 → W p l e R s m args below meth c H1 locs1 (cells + rm.cells) (slots + rm.slots) Q (F0 m (pc + 3) ls rest)) : W p l e R s m args below meth c H locs cells slots Q (F0 m pc ls st0) := by
  obtain ⟨hPc, hFc, hpre⟩ := k_cut C hP hD hS isC hC hn0 (.ref b :: As)
  obtain ⟨hx, hb, hml, hown, hE, hXx, hA⟩ := C
  obtain ⟨w1, w2, w3, w4, w5, w6⟩ := L
  refine va_callv (a := (.ref b :: As).toArray) (va_runVN (As := As) (rest := rest) (Ts := []) ⟨hx, hb, hml, hown, fun _ h => nomatch h⟩ hM ⟨⟨⟨rfl, rfl, hR.1, hR.2.1, (fun w hw a' U hW => by rw [List.mem_singleton.mp hw]; exact (hE.warm hW).w w4 rfl), List.mem_cons_self⟩, hE.w w4 rfl, hE.w w5 rfl, ⟨w6.2.1, w6.2.2.1⟩, (fun sig h => by have h2 := w6.2.2.2; rw [h] at h2; exact (Option.some.inj h2).symm), hE.w w1 rfl⟩, hE.w w2 rfl, hE.w w3 rfl⟩ ⟨kP.blind, va_recv hE.2.1 hPc hq he, hpre⟩ rfl hn hsz hst (lv_room hW) hdg ⟨hR.2.2.1, hR.2.2.2⟩) hS (fun q _ h => hFc q h) hFc (fun u t H1 locs1 ht hvm hw hB hz1 hk1 hS1 => ?_)
  obtain ⟨hB1, hB2⟩ := hB
  rw [ht] at hB1
  obtain ⟨hP1, hD1⟩ := va_join hP hD isC isR hC hRr hn1 hdis hk1 hFc hB1 hB2
  exact kk u H1 locs1 hw hP1 hD1 hS1
theorem k_callNl {S : Type} {post : Int64 → S → Prop} {w : S → va_W} {index n maxL : Nat} {y : MethodName} {bytes : ByteArray} {rm : Room} {b : Nat} {As : List Value} {wc wr : va_W} {Cn host : String} {ret : Option FieldType} (L : kLN own index Cn y host bytes maxL ret n) (C : kC G p s m c cc nL own A) (hM : kM l y bytes maxL ret rm G (.ref b :: As) wc H.size (kQl G post w)) (hR : kLR rm R maxL cells slots) (hP : va_P G.1 vwCl ws H) (hD : va_D A ws) (hS : va_S A s.heap H locs) (isC isR : List Nat) (hC : isC.map (fun i => ws[i]?) = wc.map some) (hRr : isR.map (fun i => ws[i]?) = wr.map some) (hn0 : va_nd isC = true) (hn1 : va_nd isR = true) (hdis : ∀ i ∈ isR, i ∉ isC) (q0 ci : Nat) {cq : u_T × Nat} (hq : vwCl[ci]? = some (Cn, cq)) {fs : List Value} (he : wc[q0]? = some (b, .inr (ci, fs))) (hn : As.length = n) (hsz : ls.size = nL) (hst : st0 = As.reverse ++ .ref b :: rest) (hW : (rest.map fun v => v.category).sum ≤ 8) (hdg : decode cc pc = .ok (.invokevirtual index, 3))
    (kk : ∀ (r : Int64) (u : S) (H1 : Heap) (locs1 : List Loc), post r u → va_P G.1 vwCl (wr ++ w u) H1 → va_D A (wr ++ w u) → va_S A s.heap H1 locs1 → W p l e R s m args below meth c H1 locs1 (cells + rm.cells) (slots + rm.slots) Q (F0 m (pc + 3) ls (.long r :: rest))) : W p l e R s m args below meth c H locs cells slots Q (F0 m pc ls st0) := by
  obtain ⟨hPc, hFc, hpre⟩ := k_cut C hP hD hS isC hC hn0 (.ref b :: As)
  obtain ⟨hx, hb, hml, hown, hE, hXx, hA⟩ := C
  obtain ⟨w1, w2, w3, w4, w5, w6⟩ := L
  refine va_calll (a := (.ref b :: As).toArray) (va_runVN (As := As) (rest := rest) (Ts := []) ⟨hx, hb, hml, hown, fun _ h => nomatch h⟩ hM ⟨⟨⟨rfl, rfl, hR.1, hR.2.1, (fun w hw a' U hW => by rw [List.mem_singleton.mp hw]; exact (hE.warm hW).w w4 rfl), List.mem_cons_self⟩, hE.w w4 rfl, hE.w w5 rfl, ⟨w6.2.1, w6.2.2.1⟩, (fun sig h => by have h2 := w6.2.2.2; rw [h] at h2; exact (Option.some.inj h2).symm), hE.w w1 rfl⟩, hE.w w2 rfl, hE.w w3 rfl⟩ ⟨kP.blind, va_recv hE.2.1 hPc hq he, hpre⟩ rfl hn hsz hst (lv_room hW) hdg ⟨hR.2.2.1, hR.2.2.2⟩) hS (fun q _ h => hFc q h) hFc (fun r u t H1 locs1 ht hvm hw hB hz1 hk1 hS1 => ?_)
  obtain ⟨hB1, hB2⟩ := hB
  rw [ht] at hB1
  obtain ⟨hP1, hD1⟩ := va_join hP hD isC isR hC hRr hn1 hdis hk1 hFc hB1 hB2
  exact kk r u H1 locs1 hw hP1 hD1 hS1
theorem k_callSi {S : Type} {post : Int32 → S → Prop} {w : S → va_W} {index n maxL : Nat} {y : MethodName} {bytes : ByteArray} {rm : Room} {As : List Value} {wc wr : va_W} {ret : Option FieldType} (L : kLS own index y bytes maxL ret n) (C : kC G p s m c cc nL own A) (hM : kM l y bytes maxL ret rm G As wc H.size (kQi G post w)) (hR : kLR rm R maxL cells slots) (hP : va_P G.1 vwCl ws H) (hD : va_D A ws) (hS : va_S A s.heap H locs) (isC isR : List Nat) (hC : isC.map (fun i => ws[i]?) = wc.map some) (hRr : isR.map (fun i => ws[i]?) = wr.map some) (hn0 : va_nd isC = true) (hn1 : va_nd isR = true) (hdis : ∀ i ∈ isR, i ∉ isC) (hn : As.length = n) (hsz : ls.size = nL) (hst : st0 = As.reverse ++ rest) (hW : (rest.map fun v => v.category).sum ≤ 8) (hdg : decode cc pc = .ok (.invokestatic index, 3))
    (kk : ∀ (r : Int32) (u : S) (H1 : Heap) (locs1 : List Loc), post r u → va_P G.1 vwCl (wr ++ w u) H1 → va_D A (wr ++ w u) → va_S A s.heap H1 locs1 → W p l e R s m args below meth c H1 locs1 (cells + rm.cells) (slots + rm.slots) Q (F0 m (pc + 3) ls (.int r :: rest))) : W p l e R s m args below meth c H locs cells slots Q (F0 m pc ls st0) := by
  obtain ⟨hPc, hFc, hpre⟩ := k_cut C hP hD hS isC hC hn0 As
  obtain ⟨hx, hb, hml, hown, hE, hXx, hA⟩ := C
  obtain ⟨w1, w2, w4, w5, w6⟩ := L
  refine va_calli (a := As.toArray) (va_runS (As := As) (rest := rest) (Ts := []) ⟨hx, hb, hml, hown, fun _ h => nomatch h⟩ hM ⟨⟨rfl, rfl, hR.1, hR.2.1, (fun w hw a' U hW => by rw [List.mem_singleton.mp hw]; exact (hE.warm hW).w w4 rfl), List.mem_cons_self, hE.w w4 rfl, hE.w w5 rfl, ⟨w6.1, w6.2.1⟩, (fun sig h => by have h2 := w6.2.2; rw [h] at h2; exact (Option.some.inj h2).symm), hE.w w1 rfl⟩, hE.w w2 rfl⟩ ⟨kP.blind, hpre⟩ rfl hn hsz hst (lv_room hW) hdg ⟨hR.2.2.1, hR.2.2.2⟩) hS (fun q _ h => hFc q h) hFc (fun r u t H1 locs1 ht hvm hw hB hz1 hk1 hS1 => ?_)
  obtain ⟨hB1, hB2⟩ := hB
  rw [ht] at hB1
  obtain ⟨hP1, hD1⟩ := va_join hP hD isC isR hC hRr hn1 hdis hk1 hFc hB1 hB2
  exact kk r u H1 locs1 hw hP1 hD1 hS1
theorem k_callSv {S : Type} {post : S → Prop} {w : S → va_W} {index n maxL : Nat} {y : MethodName} {bytes : ByteArray} {rm : Room} {As : List Value} {wc wr : va_W} {ret : Option FieldType} (L : kLS own index y bytes maxL ret n) (C : kC G p s m c cc nL own A) (hM : kM l y bytes maxL ret rm G As wc H.size (kQv G post w)) (hR : kLR rm R maxL cells slots) (hP : va_P G.1 vwCl ws H) (hD : va_D A ws) (hS : va_S A s.heap H locs) (isC isR : List Nat) (hC : isC.map (fun i => ws[i]?) = wc.map some) (hRr : isR.map (fun i => ws[i]?) = wr.map some) (hn0 : va_nd isC = true) (hn1 : va_nd isR = true) (hdis : ∀ i ∈ isR, i ∉ isC) (hn : As.length = n) (hsz : ls.size = nL) (hst : st0 = As.reverse ++ rest) (hW : (rest.map fun v => v.category).sum ≤ 8) (hdg : decode cc pc = .ok (.invokestatic index, 3))
    (kk : ∀ (u : S) (H1 : Heap) (locs1 : List Loc), post u → va_P G.1 vwCl (wr ++ w u) H1 → va_D A (wr ++ w u) → va_S A s.heap H1 locs1 → W p l e R s m args below meth c H1 locs1 (cells + rm.cells) (slots + rm.slots) Q (F0 m (pc + 3) ls rest)) : W p l e R s m args below meth c H locs cells slots Q (F0 m pc ls st0) := by
  obtain ⟨hPc, hFc, hpre⟩ := k_cut C hP hD hS isC hC hn0 As
  obtain ⟨hx, hb, hml, hown, hE, hXx, hA⟩ := C
  obtain ⟨w1, w2, w4, w5, w6⟩ := L
  refine va_callv (a := As.toArray) (va_runS (As := As) (rest := rest) (Ts := []) ⟨hx, hb, hml, hown, fun _ h => nomatch h⟩ hM ⟨⟨rfl, rfl, hR.1, hR.2.1, (fun w hw a' U hW => by rw [List.mem_singleton.mp hw]; exact (hE.warm hW).w w4 rfl), List.mem_cons_self, hE.w w4 rfl, hE.w w5 rfl, ⟨w6.1, w6.2.1⟩, (fun sig h => by have h2 := w6.2.2; rw [h] at h2; exact (Option.some.inj h2).symm), hE.w w1 rfl⟩, hE.w w2 rfl⟩ ⟨kP.blind, hpre⟩ rfl hn hsz hst (lv_room hW) hdg ⟨hR.2.2.1, hR.2.2.2⟩) hS (fun q _ h => hFc q h) hFc (fun u t H1 locs1 ht hvm hw hB hz1 hk1 hS1 => ?_)
  obtain ⟨hB1, hB2⟩ := hB
  rw [ht] at hB1
  obtain ⟨hP1, hD1⟩ := va_join hP hD isC isR hC hRr hn1 hdis hk1 hFc hB1 hB2
  exact kk u H1 locs1 hw hP1 hD1 hS1
theorem k_callSl {S : Type} {post : Int64 → S → Prop} {w : S → va_W} {index n maxL : Nat} {y : MethodName} {bytes : ByteArray} {rm : Room} {As : List Value} {wc wr : va_W} {ret : Option FieldType} (L : kLS own index y bytes maxL ret n) (C : kC G p s m c cc nL own A) (hM : kM l y bytes maxL ret rm G As wc H.size (kQl G post w)) (hR : kLR rm R maxL cells slots) (hP : va_P G.1 vwCl ws H) (hD : va_D A ws) (hS : va_S A s.heap H locs) (isC isR : List Nat) (hC : isC.map (fun i => ws[i]?) = wc.map some) (hRr : isR.map (fun i => ws[i]?) = wr.map some) (hn0 : va_nd isC = true) (hn1 : va_nd isR = true) (hdis : ∀ i ∈ isR, i ∉ isC) (hn : As.length = n) (hsz : ls.size = nL) (hst : st0 = As.reverse ++ rest) (hW : (rest.map fun v => v.category).sum ≤ 8) (hdg : decode cc pc = .ok (.invokestatic index, 3))
    (kk : ∀ (r : Int64) (u : S) (H1 : Heap) (locs1 : List Loc), post r u → va_P G.1 vwCl (wr ++ w u) H1 → va_D A (wr ++ w u) → va_S A s.heap H1 locs1 → W p l e R s m args below meth c H1 locs1 (cells + rm.cells) (slots + rm.slots) Q (F0 m (pc + 3) ls (.long r :: rest))) : W p l e R s m args below meth c H locs cells slots Q (F0 m pc ls st0) := by
  obtain ⟨hPc, hFc, hpre⟩ := k_cut C hP hD hS isC hC hn0 As
  obtain ⟨hx, hb, hml, hown, hE, hXx, hA⟩ := C
  obtain ⟨w1, w2, w4, w5, w6⟩ := L
  refine va_calll (a := As.toArray) (va_runS (As := As) (rest := rest) (Ts := []) ⟨hx, hb, hml, hown, fun _ h => nomatch h⟩ hM ⟨⟨rfl, rfl, hR.1, hR.2.1, (fun w hw a' U hW => by rw [List.mem_singleton.mp hw]; exact (hE.warm hW).w w4 rfl), List.mem_cons_self, hE.w w4 rfl, hE.w w5 rfl, ⟨w6.1, w6.2.1⟩, (fun sig h => by have h2 := w6.2.2; rw [h] at h2; exact (Option.some.inj h2).symm), hE.w w1 rfl⟩, hE.w w2 rfl⟩ ⟨kP.blind, hpre⟩ rfl hn hsz hst (lv_room hW) hdg ⟨hR.2.2.1, hR.2.2.2⟩) hS (fun q _ h => hFc q h) hFc (fun r u t H1 locs1 ht hvm hw hB hz1 hk1 hS1 => ?_)
  obtain ⟨hB1, hB2⟩ := hB
  rw [ht] at hB1
  obtain ⟨hP1, hD1⟩ := va_join hP hD isC isR hC hRr hn1 hdis hk1 hFc hB1 hB2
  exact kk r u H1 locs1 hw hP1 hD1 hS1
theorem k_callIv {S : Type} {post : S → Prop} {w : S → va_W} {index n maxL : Nat} {y : MethodName} {bytes : ByteArray} {rm : Room} {b : Nat} {As : List Value} {wc wr : va_W}  (L : kLI own index y bytes maxL n) (C : kC G p s m c cc nL own A) (hM : kM l y bytes maxL none rm G (.ref b :: As) wc H.size (kQv G post w)) (hR : kLR rm R maxL cells slots) (hP : va_P G.1 vwCl ws H) (hD : va_D A ws) (hS : va_S A s.heap H locs) (isC isR : List Nat) (hC : isC.map (fun i => ws[i]?) = wc.map some) (hRr : isR.map (fun i => ws[i]?) = wr.map some) (hn0 : va_nd isC = true) (hn1 : va_nd isR = true) (hdis : ∀ i ∈ isR, i ∉ isC) (hn : As.length = n) (hsz : ls.size = nL) (hst : st0 = As.reverse ++ .ref b :: rest) (hW : (rest.map fun v => v.category).sum ≤ 8) (hdg : decode cc pc = .ok (.invokespecial index, 3))
    (kk : ∀ (u : S) (H1 : Heap) (locs1 : List Loc), post u → va_P G.1 vwCl (wr ++ w u) H1 → va_D A (wr ++ w u) → va_S A s.heap H1 locs1 → W p l e R s m args below meth c H1 locs1 (cells + rm.cells) (slots + rm.slots) Q (F0 m (pc + 3) ls rest)) : W p l e R s m args below meth c H locs cells slots Q (F0 m pc ls st0) := by
  obtain ⟨hPc, hFc, hpre⟩ := k_cut C hP hD hS isC hC hn0 (.ref b :: As)
  obtain ⟨hx, hb, hml, hown, hE, hXx, hA⟩ := C
  obtain ⟨w1, w2, w4, w5, w7, w6⟩ := L
  refine va_callv (a := (.ref b :: As).toArray) (va_runI (As := As) (rest := rest) (Ts := []) ⟨hx, hb, hml, hown, fun _ h => nomatch h⟩ hM ⟨⟨rfl, rfl, hR.1, hR.2.1, (fun w hw a' U hW => by rw [List.mem_singleton.mp hw]; exact (hE.warm hW).w w4 rfl), List.mem_cons_self, hE.w w4 rfl, hE.w w5 rfl, ⟨w6.1, w6.2.1⟩, (fun sig h => by have h2 := w6.2.2; rw [h] at h2; exact (Option.some.inj h2).symm), hE.w w1 rfl⟩, w7, hE.w w2 rfl⟩ ⟨kP.blind, hpre⟩ rfl hn hsz hst (lv_room hW) hdg ⟨hR.2.2.1, hR.2.2.2⟩) hS (fun q _ h => hFc q h) hFc (fun u t H1 locs1 ht hvm hw hB hz1 hk1 hS1 => ?_)
  obtain ⟨hB1, hB2⟩ := hB
  rw [ht] at hB1
  obtain ⟨hP1, hD1⟩ := va_join hP hD isC isR hC hRr hn1 hdis hk1 hFc hB1 hB2
  exact kk u H1 locs1 hw hP1 hD1 hS1
theorem k_callJv {S : Type} {post : S → Prop} {w : S → va_W} {index n maxL : Nat} {y : MethodName} {bytes : ByteArray} {rm : Room} {b : Nat} {As : List Value} {wc wr : va_W} {host : String} (L : kLJ own index y host bytes maxL n) (C : kC G p s m c cc nL own A) (hM : kM l y bytes maxL none rm G (.ref b :: As) wc H.size (kQv G post w)) (hR : kLR rm R maxL cells slots) (hP : va_P G.1 vwCl ws H) (hD : va_D A ws) (hS : va_S A s.heap H locs) (isC isR : List Nat) (hC : isC.map (fun i => ws[i]?) = wc.map some) (hRr : isR.map (fun i => ws[i]?) = wr.map some) (hn0 : va_nd isC = true) (hn1 : va_nd isR = true) (hdis : ∀ i ∈ isR, i ∉ isC) (hn : As.length = n) (hsz : ls.size = nL) (hst : st0 = As.reverse ++ .ref b :: rest) (hW : (rest.map fun v => v.category).sum ≤ 8) (hdg : decode cc pc = .ok (.invokespecial index, 3))
    (kk : ∀ (u : S) (H1 : Heap) (locs1 : List Loc), post u → va_P G.1 vwCl (wr ++ w u) H1 → va_D A (wr ++ w u) → va_S A s.heap H1 locs1 → W p l e R s m args below meth c H1 locs1 (cells + rm.cells) (slots + rm.slots) Q (F0 m (pc + 3) ls rest)) : W p l e R s m args below meth c H locs cells slots Q (F0 m pc ls st0) := by
  obtain ⟨hPc, hFc, hpre⟩ := k_cut C hP hD hS isC hC hn0 (.ref b :: As)
  obtain ⟨hx, hb, hml, hown, hE, hXx, hA⟩ := C
  obtain ⟨w1, w2, w4, w5, w7, w6⟩ := L
  refine va_callv (a := (.ref b :: As).toArray) (va_runIN (As := As) (rest := rest) (Ts := []) ⟨hx, hb, hml, hown, fun _ h => nomatch h⟩ hM ⟨⟨⟨rfl, rfl, hR.1, hR.2.1, (fun w hw a' U hW => by rw [List.mem_singleton.mp hw]; exact (hE.warm hW).w w4 rfl), List.mem_cons_self⟩, hE.w w4 rfl, hE.w w5 rfl, ⟨w6.1, w6.2.1⟩, (fun sig h => by have h2 := w6.2.2; rw [h] at h2; exact (Option.some.inj h2).symm), hE.w w1 rfl⟩, w7, hE.w w2 rfl⟩ ⟨kP.blind, hpre⟩ rfl hn hsz hst (lv_room hW) hdg ⟨hR.2.2.1, hR.2.2.2⟩) hS (fun q _ h => hFc q h) hFc (fun u t H1 locs1 ht hvm hw hB hz1 hk1 hS1 => ?_)
  obtain ⟨hB1, hB2⟩ := hB
  rw [ht] at hB1
  obtain ⟨hP1, hD1⟩ := va_join hP hD isC isR hC hRr hn1 hdis hk1 hFc hB1 hB2
  exact kk u H1 locs1 hw hP1 hD1 hS1
theorem k_callHi {S : Type} {post : Int32 → S → Prop} {w : S → va_W} {index n maxL : Nat} {y : MethodName} {bytes : ByteArray} {rm : Room} {As : List Value} {wc wr : va_W} {ret : Option FieldType} {hh : List (Nat × Nat × Nat × Nat)} (L : kLH own index y bytes maxL ret hh n) (C : kC G p s m c cc nL own A) (hM : kMH l y bytes maxL ret hh rm G As wc H.size (kQi G post w)) (hR : kLR rm R maxL cells slots) (hP : va_P G.1 vwCl ws H) (hD : va_D A ws) (hS : va_S A s.heap H locs) (isC isR : List Nat) (hC : isC.map (fun i => ws[i]?) = wc.map some) (hRr : isR.map (fun i => ws[i]?) = wr.map some) (hn0 : va_nd isC = true) (hn1 : va_nd isR = true) (hdis : ∀ i ∈ isR, i ∉ isC) (hn : As.length = n) (hsz : ls.size = nL) (hst : st0 = As.reverse ++ rest) (hW : (rest.map fun v => v.category).sum ≤ 8) (hdg : decode cc pc = .ok (.invokestatic index, 3))
    (kk : ∀ (r : Int32) (u : S) (H1 : Heap) (locs1 : List Loc), post r u → va_P G.1 vwCl (wr ++ w u) H1 → va_D A (wr ++ w u) → va_S A s.heap H1 locs1 → W p l e R s m args below meth c H1 locs1 (cells + rm.cells) (slots + rm.slots) Q (F0 m (pc + 3) ls (.int r :: rest))) : W p l e R s m args below meth c H locs cells slots Q (F0 m pc ls st0) := by
  obtain ⟨hPc, hFc, hpre⟩ := k_cut C hP hD hS isC hC hn0 As
  obtain ⟨hx, hb, hml, hown, hE, hXx, hA⟩ := C
  obtain ⟨w1, w2, w4, w5, w6⟩ := L
  refine va_calli (a := As.toArray) (vx_runSW (As := As) (rest := rest) (Ts := []) ⟨hx, hb, hml, hown, fun _ h => nomatch h⟩ hM ⟨⟨rfl, rfl, hR.1, hR.2.1, (fun w hw a' U hW => by rw [List.mem_singleton.mp hw]; exact (hE.warm hW).w w4 rfl), List.mem_cons_self⟩, hE.w w4 rfl, hE.w w5 rfl, ⟨w6.1, w6.2.1⟩, (fun sig h => by have h2 := w6.2.2; rw [h] at h2; exact (Option.some.inj h2).symm), hE.w w1 rfl, hE.w w2 rfl⟩ ⟨kP.blind, hpre⟩ rfl hn hsz hst (lv_room hW) hdg ⟨hR.2.2.1, hR.2.2.2⟩) hS (fun q _ h => hFc q h) hFc (fun r u t H1 locs1 ht hvm hw hB hz1 hk1 hS1 => ?_)
  obtain ⟨hB1, hB2⟩ := hB
  rw [ht] at hB1
  obtain ⟨hP1, hD1⟩ := va_join hP hD isC isR hC hRr hn1 hdis hk1 hFc hB1 hB2
  exact kk r u H1 locs1 hw hP1 hD1 hS1
theorem k_xcallVi {SX : Type} {px : String → SX → Prop} {wx : SX → va_W} {S : Type} {post : Int32 → S → Prop} {w : S → va_W} {index n maxL : Nat} {y : MethodName} {bytes : ByteArray} {rm : Room} {b : Nat} {As : List Value} {wc wr : va_W} {Cn : String} {ret : Option FieldType} (L : kLV own index Cn y bytes maxL ret n) (C : kC G p s m c cc nL own A) (hM : kMX l y bytes maxL ret rm G (.ref b :: As) wc H.size (kQi G post w) (kXC G px wx)) (hR : kLR rm R maxL cells slots) (hP : va_P G.1 vwCl ws H) (hD : va_D A ws) (hS : va_S A s.heap H locs) (isC isR : List Nat) (hC : isC.map (fun i => ws[i]?) = wc.map some) (hRr : isR.map (fun i => ws[i]?) = wr.map some) (hn0 : va_nd isC = true) (hn1 : va_nd isR = true) (hdis : ∀ i ∈ isR, i ∉ isC) (q0 ci : Nat) {cq : u_T × Nat} (hq : vwCl[ci]? = some (Cn, cq)) {fs : List Value} (he : wc[q0]? = some (b, .inr (ci, fs))) (hn : As.length = n) (hsz : ls.size = nL) (hst : st0 = As.reverse ++ .ref b :: rest) (hW : (rest.map fun v => v.category).sum ≤ 8) (hdg : decode cc pc = .ok (.invokevirtual index, 3))
    (kx : ∀ (E : String) (ce : Cell) (q9 : Addr) (u : SX) (H1 : Heap) (locs1 : List Loc), px E u → va_P G.1 vwCl (wr ++ wx u) H1 → va_D A (wr ++ wx u) → va_S A s.heap H1 locs1 → H1[q9]? = some ce → ce.vm = .none → s.vm.findClass E = some ce.cls → vx_W p l e R s m args below meth c H1 locs1 (cells + rm.cells) (slots + rm.slots) Q (F0 m pc ls rest) q9)
    (kk : ∀ (r : Int32) (u : S) (H1 : Heap) (locs1 : List Loc), post r u → va_P G.1 vwCl (wr ++ w u) H1 → va_D A (wr ++ w u) → va_S A s.heap H1 locs1 → W p l e R s m args below meth c H1 locs1 (cells + rm.cells) (slots + rm.slots) Q (F0 m (pc + 3) ls (.int r :: rest))) : W p l e R s m args below meth c H locs cells slots Q (F0 m pc ls st0) := by
  obtain ⟨hPc, hFc, hpre⟩ := k_cut C hP hD hS isC hC hn0 (.ref b :: As)
  obtain ⟨hx, hb, hml, hown, hE, hXx, hA⟩ := C
  obtain ⟨w1, w2, w3, w4, w5, w6⟩ := L
  refine vx_calli (a := (.ref b :: As).toArray) (vx_runV (As := As) (rest := rest) (Ts := []) ⟨hx, hb, hml, hown, fun _ h => nomatch h⟩ hM ⟨⟨rfl, rfl, hR.1, hR.2.1, (fun w hw a' U hW => by rw [List.mem_singleton.mp hw]; exact (hE.warm hW).w w4 rfl), List.mem_cons_self, hE.w w4 rfl, hE.w w5 rfl, ⟨w6.2.1, w6.2.2.1⟩, (fun sig h => by have h2 := w6.2.2.2; rw [h] at h2; exact (Option.some.inj h2).symm), hE.w w1 rfl⟩, hE.w w2 rfl, hE.w w3 rfl⟩ ⟨kP.blind, va_recv hE.2.1 hPc hq he, hpre⟩ rfl hn hsz hst (lv_room hW) hdg ⟨hR.2.2.1, hR.2.2.2⟩) hS (fun q _ h => hFc q h) hFc (fun q _ h => hFc q h) (fun E ce q9 u t H1 locs1 ht hvm hw hB hz1 hk1 hS1 hc1 hc2 hc3 => ?_) (fun r u t H1 locs1 ht hvm hw hB hz1 hk1 hS1 => ?_)
  · obtain ⟨hpx, hB1, hB2⟩ := hB
    rw [ht] at hB1
    obtain ⟨hP1, hD1⟩ := va_join hP hD isC isR hC hRr hn1 hdis hk1 hFc hB1 hB2
    exact kx E ce q9 u H1 locs1 hpx hP1 hD1 hS1 hc1 hc2 hc3
  · obtain ⟨hB1, hB2⟩ := hB
    rw [ht] at hB1
    obtain ⟨hP1, hD1⟩ := va_join hP hD isC isR hC hRr hn1 hdis hk1 hFc hB1 hB2
    exact kk r u H1 locs1 hw hP1 hD1 hS1
theorem k_xcallVv {SX : Type} {px : String → SX → Prop} {wx : SX → va_W} {S : Type} {post : S → Prop} {w : S → va_W} {index n maxL : Nat} {y : MethodName} {bytes : ByteArray} {rm : Room} {b : Nat} {As : List Value} {wc wr : va_W} {Cn : String} {ret : Option FieldType} (L : kLV own index Cn y bytes maxL ret n) (C : kC G p s m c cc nL own A) (hM : kMX l y bytes maxL ret rm G (.ref b :: As) wc H.size (kQv G post w) (kXC G px wx)) (hR : kLR rm R maxL cells slots) (hP : va_P G.1 vwCl ws H) (hD : va_D A ws) (hS : va_S A s.heap H locs) (isC isR : List Nat) (hC : isC.map (fun i => ws[i]?) = wc.map some) (hRr : isR.map (fun i => ws[i]?) = wr.map some) (hn0 : va_nd isC = true) (hn1 : va_nd isR = true) (hdis : ∀ i ∈ isR, i ∉ isC) (q0 ci : Nat) {cq : u_T × Nat} (hq : vwCl[ci]? = some (Cn, cq)) {fs : List Value} (he : wc[q0]? = some (b, .inr (ci, fs))) (hn : As.length = n) (hsz : ls.size = nL) (hst : st0 = As.reverse ++ .ref b :: rest) (hW : (rest.map fun v => v.category).sum ≤ 8) (hdg : decode cc pc = .ok (.invokevirtual index, 3))
    (kx : ∀ (E : String) (ce : Cell) (q9 : Addr) (u : SX) (H1 : Heap) (locs1 : List Loc), px E u → va_P G.1 vwCl (wr ++ wx u) H1 → va_D A (wr ++ wx u) → va_S A s.heap H1 locs1 → H1[q9]? = some ce → ce.vm = .none → s.vm.findClass E = some ce.cls → vx_W p l e R s m args below meth c H1 locs1 (cells + rm.cells) (slots + rm.slots) Q (F0 m pc ls rest) q9)
    (kk : ∀ (u : S) (H1 : Heap) (locs1 : List Loc), post u → va_P G.1 vwCl (wr ++ w u) H1 → va_D A (wr ++ w u) → va_S A s.heap H1 locs1 → W p l e R s m args below meth c H1 locs1 (cells + rm.cells) (slots + rm.slots) Q (F0 m (pc + 3) ls rest)) : W p l e R s m args below meth c H locs cells slots Q (F0 m pc ls st0) := by
  obtain ⟨hPc, hFc, hpre⟩ := k_cut C hP hD hS isC hC hn0 (.ref b :: As)
  obtain ⟨hx, hb, hml, hown, hE, hXx, hA⟩ := C
  obtain ⟨w1, w2, w3, w4, w5, w6⟩ := L
  refine vx_callv (a := (.ref b :: As).toArray) (vx_runV (As := As) (rest := rest) (Ts := []) ⟨hx, hb, hml, hown, fun _ h => nomatch h⟩ hM ⟨⟨rfl, rfl, hR.1, hR.2.1, (fun w hw a' U hW => by rw [List.mem_singleton.mp hw]; exact (hE.warm hW).w w4 rfl), List.mem_cons_self, hE.w w4 rfl, hE.w w5 rfl, ⟨w6.2.1, w6.2.2.1⟩, (fun sig h => by have h2 := w6.2.2.2; rw [h] at h2; exact (Option.some.inj h2).symm), hE.w w1 rfl⟩, hE.w w2 rfl, hE.w w3 rfl⟩ ⟨kP.blind, va_recv hE.2.1 hPc hq he, hpre⟩ rfl hn hsz hst (lv_room hW) hdg ⟨hR.2.2.1, hR.2.2.2⟩) hS (fun q _ h => hFc q h) hFc (fun q _ h => hFc q h) (fun E ce q9 u t H1 locs1 ht hvm hw hB hz1 hk1 hS1 hc1 hc2 hc3 => ?_) (fun u t H1 locs1 ht hvm hw hB hz1 hk1 hS1 => ?_)
  · obtain ⟨hpx, hB1, hB2⟩ := hB
    rw [ht] at hB1
    obtain ⟨hP1, hD1⟩ := va_join hP hD isC isR hC hRr hn1 hdis hk1 hFc hB1 hB2
    exact kx E ce q9 u H1 locs1 hpx hP1 hD1 hS1 hc1 hc2 hc3
  · obtain ⟨hB1, hB2⟩ := hB
    rw [ht] at hB1
    obtain ⟨hP1, hD1⟩ := va_join hP hD isC isR hC hRr hn1 hdis hk1 hFc hB1 hB2
    exact kk u H1 locs1 hw hP1 hD1 hS1
theorem k_xcallVl {SX : Type} {px : String → SX → Prop} {wx : SX → va_W} {S : Type} {post : Int64 → S → Prop} {w : S → va_W} {index n maxL : Nat} {y : MethodName} {bytes : ByteArray} {rm : Room} {b : Nat} {As : List Value} {wc wr : va_W} {Cn : String} {ret : Option FieldType} (L : kLV own index Cn y bytes maxL ret n) (C : kC G p s m c cc nL own A) (hM : kMX l y bytes maxL ret rm G (.ref b :: As) wc H.size (kQl G post w) (kXC G px wx)) (hR : kLR rm R maxL cells slots) (hP : va_P G.1 vwCl ws H) (hD : va_D A ws) (hS : va_S A s.heap H locs) (isC isR : List Nat) (hC : isC.map (fun i => ws[i]?) = wc.map some) (hRr : isR.map (fun i => ws[i]?) = wr.map some) (hn0 : va_nd isC = true) (hn1 : va_nd isR = true) (hdis : ∀ i ∈ isR, i ∉ isC) (q0 ci : Nat) {cq : u_T × Nat} (hq : vwCl[ci]? = some (Cn, cq)) {fs : List Value} (he : wc[q0]? = some (b, .inr (ci, fs))) (hn : As.length = n) (hsz : ls.size = nL) (hst : st0 = As.reverse ++ .ref b :: rest) (hW : (rest.map fun v => v.category).sum ≤ 8) (hdg : decode cc pc = .ok (.invokevirtual index, 3))
    (kx : ∀ (E : String) (ce : Cell) (q9 : Addr) (u : SX) (H1 : Heap) (locs1 : List Loc), px E u → va_P G.1 vwCl (wr ++ wx u) H1 → va_D A (wr ++ wx u) → va_S A s.heap H1 locs1 → H1[q9]? = some ce → ce.vm = .none → s.vm.findClass E = some ce.cls → vx_W p l e R s m args below meth c H1 locs1 (cells + rm.cells) (slots + rm.slots) Q (F0 m pc ls rest) q9)
    (kk : ∀ (r : Int64) (u : S) (H1 : Heap) (locs1 : List Loc), post r u → va_P G.1 vwCl (wr ++ w u) H1 → va_D A (wr ++ w u) → va_S A s.heap H1 locs1 → W p l e R s m args below meth c H1 locs1 (cells + rm.cells) (slots + rm.slots) Q (F0 m (pc + 3) ls (.long r :: rest))) : W p l e R s m args below meth c H locs cells slots Q (F0 m pc ls st0) := by
  obtain ⟨hPc, hFc, hpre⟩ := k_cut C hP hD hS isC hC hn0 (.ref b :: As)
  obtain ⟨hx, hb, hml, hown, hE, hXx, hA⟩ := C
  obtain ⟨w1, w2, w3, w4, w5, w6⟩ := L
  refine vx_calll (a := (.ref b :: As).toArray) (vx_runV (As := As) (rest := rest) (Ts := []) ⟨hx, hb, hml, hown, fun _ h => nomatch h⟩ hM ⟨⟨rfl, rfl, hR.1, hR.2.1, (fun w hw a' U hW => by rw [List.mem_singleton.mp hw]; exact (hE.warm hW).w w4 rfl), List.mem_cons_self, hE.w w4 rfl, hE.w w5 rfl, ⟨w6.2.1, w6.2.2.1⟩, (fun sig h => by have h2 := w6.2.2.2; rw [h] at h2; exact (Option.some.inj h2).symm), hE.w w1 rfl⟩, hE.w w2 rfl, hE.w w3 rfl⟩ ⟨kP.blind, va_recv hE.2.1 hPc hq he, hpre⟩ rfl hn hsz hst (lv_room hW) hdg ⟨hR.2.2.1, hR.2.2.2⟩) hS (fun q _ h => hFc q h) hFc (fun q _ h => hFc q h) (fun E ce q9 u t H1 locs1 ht hvm hw hB hz1 hk1 hS1 hc1 hc2 hc3 => ?_) (fun r u t H1 locs1 ht hvm hw hB hz1 hk1 hS1 => ?_)
  · obtain ⟨hpx, hB1, hB2⟩ := hB
    rw [ht] at hB1
    obtain ⟨hP1, hD1⟩ := va_join hP hD isC isR hC hRr hn1 hdis hk1 hFc hB1 hB2
    exact kx E ce q9 u H1 locs1 hpx hP1 hD1 hS1 hc1 hc2 hc3
  · obtain ⟨hB1, hB2⟩ := hB
    rw [ht] at hB1
    obtain ⟨hP1, hD1⟩ := va_join hP hD isC isR hC hRr hn1 hdis hk1 hFc hB1 hB2
    exact kk r u H1 locs1 hw hP1 hD1 hS1
theorem k_xcallSi {SX : Type} {px : String → SX → Prop} {wx : SX → va_W} {S : Type} {post : Int32 → S → Prop} {w : S → va_W} {index n maxL : Nat} {y : MethodName} {bytes : ByteArray} {rm : Room} {As : List Value} {wc wr : va_W} {ret : Option FieldType} (L : kLS own index y bytes maxL ret n) (C : kC G p s m c cc nL own A) (hM : kMX l y bytes maxL ret rm G As wc H.size (kQi G post w) (kXC G px wx)) (hR : kLR rm R maxL cells slots) (hP : va_P G.1 vwCl ws H) (hD : va_D A ws) (hS : va_S A s.heap H locs) (isC isR : List Nat) (hC : isC.map (fun i => ws[i]?) = wc.map some) (hRr : isR.map (fun i => ws[i]?) = wr.map some) (hn0 : va_nd isC = true) (hn1 : va_nd isR = true) (hdis : ∀ i ∈ isR, i ∉ isC) (hn : As.length = n) (hsz : ls.size = nL) (hst : st0 = As.reverse ++ rest) (hW : (rest.map fun v => v.category).sum ≤ 8) (hdg : decode cc pc = .ok (.invokestatic index, 3))
    (kx : ∀ (E : String) (ce : Cell) (q9 : Addr) (u : SX) (H1 : Heap) (locs1 : List Loc), px E u → va_P G.1 vwCl (wr ++ wx u) H1 → va_D A (wr ++ wx u) → va_S A s.heap H1 locs1 → H1[q9]? = some ce → ce.vm = .none → s.vm.findClass E = some ce.cls → vx_W p l e R s m args below meth c H1 locs1 (cells + rm.cells) (slots + rm.slots) Q (F0 m pc ls rest) q9)
    (kk : ∀ (r : Int32) (u : S) (H1 : Heap) (locs1 : List Loc), post r u → va_P G.1 vwCl (wr ++ w u) H1 → va_D A (wr ++ w u) → va_S A s.heap H1 locs1 → W p l e R s m args below meth c H1 locs1 (cells + rm.cells) (slots + rm.slots) Q (F0 m (pc + 3) ls (.int r :: rest))) : W p l e R s m args below meth c H locs cells slots Q (F0 m pc ls st0) := by
  obtain ⟨hPc, hFc, hpre⟩ := k_cut C hP hD hS isC hC hn0 As
  obtain ⟨hx, hb, hml, hown, hE, hXx, hA⟩ := C
  obtain ⟨w1, w2, w4, w5, w6⟩ := L
  refine vx_calli (a := As.toArray) (vx_runS (As := As) (rest := rest) (Ts := []) ⟨hx, hb, hml, hown, fun _ h => nomatch h⟩ hM ⟨⟨rfl, rfl, hR.1, hR.2.1, (fun w hw a' U hW => by rw [List.mem_singleton.mp hw]; exact (hE.warm hW).w w4 rfl), List.mem_cons_self, hE.w w4 rfl, hE.w w5 rfl, ⟨w6.1, w6.2.1⟩, (fun sig h => by have h2 := w6.2.2; rw [h] at h2; exact (Option.some.inj h2).symm), hE.w w1 rfl⟩, hE.w w2 rfl⟩ ⟨kP.blind, hpre⟩ rfl hn hsz hst (lv_room hW) hdg ⟨hR.2.2.1, hR.2.2.2⟩) hS (fun q _ h => hFc q h) hFc (fun q _ h => hFc q h) (fun E ce q9 u t H1 locs1 ht hvm hw hB hz1 hk1 hS1 hc1 hc2 hc3 => ?_) (fun r u t H1 locs1 ht hvm hw hB hz1 hk1 hS1 => ?_)
  · obtain ⟨hpx, hB1, hB2⟩ := hB
    rw [ht] at hB1
    obtain ⟨hP1, hD1⟩ := va_join hP hD isC isR hC hRr hn1 hdis hk1 hFc hB1 hB2
    exact kx E ce q9 u H1 locs1 hpx hP1 hD1 hS1 hc1 hc2 hc3
  · obtain ⟨hB1, hB2⟩ := hB
    rw [ht] at hB1
    obtain ⟨hP1, hD1⟩ := va_join hP hD isC isR hC hRr hn1 hdis hk1 hFc hB1 hB2
    exact kk r u H1 locs1 hw hP1 hD1 hS1
theorem k_xcallSv {SX : Type} {px : String → SX → Prop} {wx : SX → va_W} {S : Type} {post : S → Prop} {w : S → va_W} {index n maxL : Nat} {y : MethodName} {bytes : ByteArray} {rm : Room} {As : List Value} {wc wr : va_W} {ret : Option FieldType} (L : kLS own index y bytes maxL ret n) (C : kC G p s m c cc nL own A) (hM : kMX l y bytes maxL ret rm G As wc H.size (kQv G post w) (kXC G px wx)) (hR : kLR rm R maxL cells slots) (hP : va_P G.1 vwCl ws H) (hD : va_D A ws) (hS : va_S A s.heap H locs) (isC isR : List Nat) (hC : isC.map (fun i => ws[i]?) = wc.map some) (hRr : isR.map (fun i => ws[i]?) = wr.map some) (hn0 : va_nd isC = true) (hn1 : va_nd isR = true) (hdis : ∀ i ∈ isR, i ∉ isC) (hn : As.length = n) (hsz : ls.size = nL) (hst : st0 = As.reverse ++ rest) (hW : (rest.map fun v => v.category).sum ≤ 8) (hdg : decode cc pc = .ok (.invokestatic index, 3))
    (kx : ∀ (E : String) (ce : Cell) (q9 : Addr) (u : SX) (H1 : Heap) (locs1 : List Loc), px E u → va_P G.1 vwCl (wr ++ wx u) H1 → va_D A (wr ++ wx u) → va_S A s.heap H1 locs1 → H1[q9]? = some ce → ce.vm = .none → s.vm.findClass E = some ce.cls → vx_W p l e R s m args below meth c H1 locs1 (cells + rm.cells) (slots + rm.slots) Q (F0 m pc ls rest) q9)
    (kk : ∀ (u : S) (H1 : Heap) (locs1 : List Loc), post u → va_P G.1 vwCl (wr ++ w u) H1 → va_D A (wr ++ w u) → va_S A s.heap H1 locs1 → W p l e R s m args below meth c H1 locs1 (cells + rm.cells) (slots + rm.slots) Q (F0 m (pc + 3) ls rest)) : W p l e R s m args below meth c H locs cells slots Q (F0 m pc ls st0) := by
  obtain ⟨hPc, hFc, hpre⟩ := k_cut C hP hD hS isC hC hn0 As
  obtain ⟨hx, hb, hml, hown, hE, hXx, hA⟩ := C
  obtain ⟨w1, w2, w4, w5, w6⟩ := L
  refine vx_callv (a := As.toArray) (vx_runS (As := As) (rest := rest) (Ts := []) ⟨hx, hb, hml, hown, fun _ h => nomatch h⟩ hM ⟨⟨rfl, rfl, hR.1, hR.2.1, (fun w hw a' U hW => by rw [List.mem_singleton.mp hw]; exact (hE.warm hW).w w4 rfl), List.mem_cons_self, hE.w w4 rfl, hE.w w5 rfl, ⟨w6.1, w6.2.1⟩, (fun sig h => by have h2 := w6.2.2; rw [h] at h2; exact (Option.some.inj h2).symm), hE.w w1 rfl⟩, hE.w w2 rfl⟩ ⟨kP.blind, hpre⟩ rfl hn hsz hst (lv_room hW) hdg ⟨hR.2.2.1, hR.2.2.2⟩) hS (fun q _ h => hFc q h) hFc (fun q _ h => hFc q h) (fun E ce q9 u t H1 locs1 ht hvm hw hB hz1 hk1 hS1 hc1 hc2 hc3 => ?_) (fun u t H1 locs1 ht hvm hw hB hz1 hk1 hS1 => ?_)
  · obtain ⟨hpx, hB1, hB2⟩ := hB
    rw [ht] at hB1
    obtain ⟨hP1, hD1⟩ := va_join hP hD isC isR hC hRr hn1 hdis hk1 hFc hB1 hB2
    exact kx E ce q9 u H1 locs1 hpx hP1 hD1 hS1 hc1 hc2 hc3
  · obtain ⟨hB1, hB2⟩ := hB
    rw [ht] at hB1
    obtain ⟨hP1, hD1⟩ := va_join hP hD isC isR hC hRr hn1 hdis hk1 hFc hB1 hB2
    exact kk u H1 locs1 hw hP1 hD1 hS1
theorem k_xcallSl {SX : Type} {px : String → SX → Prop} {wx : SX → va_W} {S : Type} {post : Int64 → S → Prop} {w : S → va_W} {index n maxL : Nat} {y : MethodName} {bytes : ByteArray} {rm : Room} {As : List Value} {wc wr : va_W} {ret : Option FieldType} (L : kLS own index y bytes maxL ret n) (C : kC G p s m c cc nL own A) (hM : kMX l y bytes maxL ret rm G As wc H.size (kQl G post w) (kXC G px wx)) (hR : kLR rm R maxL cells slots) (hP : va_P G.1 vwCl ws H) (hD : va_D A ws) (hS : va_S A s.heap H locs) (isC isR : List Nat) (hC : isC.map (fun i => ws[i]?) = wc.map some) (hRr : isR.map (fun i => ws[i]?) = wr.map some) (hn0 : va_nd isC = true) (hn1 : va_nd isR = true) (hdis : ∀ i ∈ isR, i ∉ isC) (hn : As.length = n) (hsz : ls.size = nL) (hst : st0 = As.reverse ++ rest) (hW : (rest.map fun v => v.category).sum ≤ 8) (hdg : decode cc pc = .ok (.invokestatic index, 3))
    (kx : ∀ (E : String) (ce : Cell) (q9 : Addr) (u : SX) (H1 : Heap) (locs1 : List Loc), px E u → va_P G.1 vwCl (wr ++ wx u) H1 → va_D A (wr ++ wx u) → va_S A s.heap H1 locs1 → H1[q9]? = some ce → ce.vm = .none → s.vm.findClass E = some ce.cls → vx_W p l e R s m args below meth c H1 locs1 (cells + rm.cells) (slots + rm.slots) Q (F0 m pc ls rest) q9)
    (kk : ∀ (r : Int64) (u : S) (H1 : Heap) (locs1 : List Loc), post r u → va_P G.1 vwCl (wr ++ w u) H1 → va_D A (wr ++ w u) → va_S A s.heap H1 locs1 → W p l e R s m args below meth c H1 locs1 (cells + rm.cells) (slots + rm.slots) Q (F0 m (pc + 3) ls (.long r :: rest))) : W p l e R s m args below meth c H locs cells slots Q (F0 m pc ls st0) := by
  obtain ⟨hPc, hFc, hpre⟩ := k_cut C hP hD hS isC hC hn0 As
  obtain ⟨hx, hb, hml, hown, hE, hXx, hA⟩ := C
  obtain ⟨w1, w2, w4, w5, w6⟩ := L
  refine vx_calll (a := As.toArray) (vx_runS (As := As) (rest := rest) (Ts := []) ⟨hx, hb, hml, hown, fun _ h => nomatch h⟩ hM ⟨⟨rfl, rfl, hR.1, hR.2.1, (fun w hw a' U hW => by rw [List.mem_singleton.mp hw]; exact (hE.warm hW).w w4 rfl), List.mem_cons_self, hE.w w4 rfl, hE.w w5 rfl, ⟨w6.1, w6.2.1⟩, (fun sig h => by have h2 := w6.2.2; rw [h] at h2; exact (Option.some.inj h2).symm), hE.w w1 rfl⟩, hE.w w2 rfl⟩ ⟨kP.blind, hpre⟩ rfl hn hsz hst (lv_room hW) hdg ⟨hR.2.2.1, hR.2.2.2⟩) hS (fun q _ h => hFc q h) hFc (fun q _ h => hFc q h) (fun E ce q9 u t H1 locs1 ht hvm hw hB hz1 hk1 hS1 hc1 hc2 hc3 => ?_) (fun r u t H1 locs1 ht hvm hw hB hz1 hk1 hS1 => ?_)
  · obtain ⟨hpx, hB1, hB2⟩ := hB
    rw [ht] at hB1
    obtain ⟨hP1, hD1⟩ := va_join hP hD isC isR hC hRr hn1 hdis hk1 hFc hB1 hB2
    exact kx E ce q9 u H1 locs1 hpx hP1 hD1 hS1 hc1 hc2 hc3
  · obtain ⟨hB1, hB2⟩ := hB
    rw [ht] at hB1
    obtain ⟨hP1, hD1⟩ := va_join hP hD isC isR hC hRr hn1 hdis hk1 hFc hB1 hB2
    exact kk r u H1 locs1 hw hP1 hD1 hS1
theorem k_iret {S : Type} {post : Int32 → S → Prop} {w : S → va_W} {mc ms : Nat} {r : Int32} (C : kC G p s m c cc nL own A) (hr : meth.sig.returnType = some .int) (hlk : meth.locks = false) (hP : va_P G.1 vwCl ws H) (hD : va_D A ws) (hS : va_S A s.heap H locs) (u : S) (hpost : post r u) (isO : List Nat) (hO : isO.map (fun i => ws[i]?) = (w u).map some) (hnO : va_nd isO = true) (hc : cells ≤ mc) (hs : slots ≤ ms) (hdg : decode cc pc = .ok (.ireturn, 1)) :
    W p l e R s m args below meth c H locs cells slots (MQ below (kQi G post w A) args s mc ms A) (F0 m pc ls [.int r]) := by
  refine W.widen hc hs ?_
  exact W.iret (v := r) C.1 C.2.1 hr (fun t ht hW => ⟨⟨r, u, rfl, hpost, by rw [ht]; exact hP.sub isO (k_fm hO), hD.sub isO hnO hO⟩, hS.F ht⟩) hS.2.2 hdg (hlocks := hlk)
theorem k_zret {S : Type} {post : Int32 → S → Prop} {w : S → va_W} {mc ms : Nat} {r : Int32} (C : kC G p s m c cc nL own A) (hr : meth.sig.returnType = some .boolean) (hlk : meth.locks = false) (hnz : narrow .boolean (.int r) = .int r) (hP : va_P G.1 vwCl ws H) (hD : va_D A ws) (hS : va_S A s.heap H locs) (u : S) (hpost : post r u) (isO : List Nat) (hO : isO.map (fun i => ws[i]?) = (w u).map some) (hnO : va_nd isO = true) (hc : cells ≤ mc) (hs : slots ≤ ms) (hdg : decode cc pc = .ok (.ireturn, 1)) :
    W p l e R s m args below meth c H locs cells slots (MQ below (kQi G post w A) args s mc ms A) (F0 m pc ls [.int r]) := by
  refine W.widen hc hs ?_
  exact W.zret (v := r) C.1 C.2.1 hr hnz (fun t ht hW => ⟨⟨r, u, rfl, hpost, by rw [ht]; exact hP.sub isO (k_fm hO), hD.sub isO hnO hO⟩, hS.F ht⟩) hS.2.2 hdg (hlocks := hlk)
theorem k_lret {S : Type} {post : Int64 → S → Prop} {w : S → va_W} {mc ms : Nat} {r : Int64} (C : kC G p s m c cc nL own A) (hr : meth.sig.returnType = some .long) (hlk : meth.locks = false) (hP : va_P G.1 vwCl ws H) (hD : va_D A ws) (hS : va_S A s.heap H locs) (u : S) (hpost : post r u) (isO : List Nat) (hO : isO.map (fun i => ws[i]?) = (w u).map some) (hnO : va_nd isO = true) (hc : cells ≤ mc) (hs : slots ≤ ms) (hdg : decode cc pc = .ok (.lreturn, 1)) :
    W p l e R s m args below meth c H locs cells slots (MQ below (kQl G post w A) args s mc ms A) (F0 m pc ls [.long r]) := by
  refine W.widen hc hs ?_
  exact W.lret (v := r) C.1 C.2.1 hr (fun t ht hW => ⟨⟨r, u, rfl, hpost, by rw [ht]; exact hP.sub isO (k_fm hO), hD.sub isO hnO hO⟩, hS.F ht⟩) hS.2.2 hdg (hlocks := hlk)
theorem k_vret {S : Type} {post : S → Prop} {w : S → va_W} {mc ms : Nat} (C : kC G p s m c cc nL own A) (hr : meth.sig.returnType = none) (hlk : meth.locks = false) (hP : va_P G.1 vwCl ws H) (hD : va_D A ws) (hS : va_S A s.heap H locs) (u : S) (hpost : post u) (isO : List Nat) (hO : isO.map (fun i => ws[i]?) = (w u).map some) (hnO : va_nd isO = true) (hc : cells ≤ mc) (hs : slots ≤ ms) (hdg : decode cc pc = .ok (.return_, 1)) :
    W p l e R s m args below meth c H locs cells slots (MQ below (kQv G post w A) args s mc ms A) (F0 m pc ls []) := by
  refine W.widen hc hs ?_
  exact W.vret C.1 C.2.1 hr (fun t ht hW => ⟨⟨u, rfl, hpost, by rw [ht]; exact hP.sub isO (k_fm hO), hD.sub isO hnO hO⟩, hS.F ht⟩) hS.2.2 hdg (hlocks := hlk)
/-- an exception that leaves this method -/
theorem k_xout {Qc : Array Value → State → Outcome → State → Prop} {S : Type} {px : String → S → Prop} {w : S → va_W} {mc ms : Nat} {E : String} {ce : Cell} {q9 : Addr} (hno : ∀ x ∈ c.exceptionTable.toList, False) (hlk : meth.locks = false) (hP : va_P G.1 vwCl ws H) (hD : va_D A ws) (hS : va_S A s.heap H locs) (hc1 : H[q9]? = some ce) (hc2 : ce.vm = .none) (hc3 : s.vm.findClass E = some ce.cls) (u : S) (hpx : px E u) (isO : List Nat) (hO : isO.map (fun i => ws[i]?) = (w u).map some) (hnO : va_nd isO = true) (hc : cells ≤ mc) (hs : slots ≤ ms) :
    vx_W p l e R s m args below meth c H locs cells slots (vx_MQ below Qc (kXC G px w A) args s mc ms A) (F0 m pc ls rest) q9 :=
  vx_out (fun x hx => (hno x hx).elim) hlk hc1 hc2 hc3 (fun t ht hvm => ⟨u, trivial, ⟨hpx, by rw [ht]; exact hP.sub isO (k_fm hO), hD.sub isO hnO hO⟩, hS.F ht⟩) hS.2.2 hc hs
/-- throw new E() -/
theorem k_throw {Qc : Array Value → State → Outcome → State → Prop} {S : Type} {px : String → S → Prop} {w : S → va_W} {mc ms ik ic : Nat} {cls : String} {names : List String} (hl : l.stackTraces = false) (hfit : Bundle.fit cls = true ∧ ∀ n ∈ names, Bundle.fit n = true) (hm : ∀ w ∈ Cond.classLink own ik cls :: Cond.initialized cls :: vx_at0 own ic cls names, w ∈ lw_tbl ∧ kOk w = true ∧ vx_ot w = true)
    (hno : ∀ x ∈ c.exceptionTable.toList, False) (hlk : meth.locks = false) (C : kC G p s m c cc nL own A) (hsz : ls.size = nL) (hP : va_P G.1 vwCl ws H) (hD : va_D A ws) (hS : va_S A s.heap H locs)
    (d0 : decode cc pc = .ok (.new ik, 3)) (d3 : decode cc (pc + 3) = .ok (.dup, 1)) (d4 : decode cc (pc + 4) = .ok (.invokespecial ic, 3)) (d7 : decode cc (pc + 7) = .ok (.athrow, 1))
    (hf : names.length + 3 < R.frames) (hl2 : (rest.map fun v => v.category).sum + (13 * (names.length + 1) + 42) ≤ R.locals) (hR : cells + 1 ≤ R.cells ∧ slots + 6 ≤ R.slots) (u : S) (hpx : px cls u) (isO : List Nat) (hO : isO.map (fun i => ws[i]?) = (w u).map some) (hnO : va_nd isO = true) (hc : cells + 1 ≤ mc) (hs : slots + 6 ≤ ms) :
    W p l e R s m args below meth c H locs cells slots (vx_MQ below Qc (kXC G px w A) args s mc ms A) (F0 m pc ls rest) := by
  obtain ⟨hx, hb, hml, hown, hE, hXx, hA⟩ := C
  have ok : ∀ w ∈ Cond.classLink own ik cls :: Cond.initialized cls :: vx_at0 own ic cls names, w.before args s = true := fun w h => hE.w (hm w h).1 (hm w h).2.1
  refine vx_throw0 hx hb hl hown hfit.1 hfit.2 (ok _ List.mem_cons_self) (ok _ (List.mem_cons_of_mem _ List.mem_cons_self)) (fun w h => ok w (List.mem_cons_of_mem _ (List.mem_cons_of_mem _ h))) (fun w h => (hm w h).2.2) hXx.1 hXx.2 hS (hsz.trans hml.symm) d0 d3 d4 d7 (fun x hx => (hno x hx).elim) hf hl2 hR.1 hR.2 hlk ?_ hS.2.2 hc hs
  intro t hvm hz hq
  have hk : ∀ (k : Nat) (x : Nat × va_E), ws[k]? = some x → t.heap[x.1]? = H[x.1]? := fun k x hx => hq x.1 ((hP k x hx).lt)
  exact ⟨u, trivial, ⟨hpx, (hP.kept hk).sub isO (k_fm hO), hD.sub isO hnO hO⟩, Nat.le_trans hS.1 hz, fun q h1 h2 => (hq q (Nat.lt_of_lt_of_le h1 hS.1)).trans (hS.2.1 q h1 h2)⟩
end KR
