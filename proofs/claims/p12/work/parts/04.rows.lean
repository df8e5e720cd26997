def ofL (N : Nat) (F : Nat → Value) : List Value := (List.range N).map F
theorem ofL_get {N k : Nat} {F : Nat → Value} (h : k < N) : (ofL N F)[k]? = some (F k) := by simp [ofL, h]
theorem ofL_len {N : Nat} {F : Nat → Value} : (ofL N F).length = N := by simp [ofL]
theorem ofL_set {N k : Nat} {F : Nat → Value} {v : Value} : (ofL N F).set k v = ofL N (updV F k v) := by
  apply List.ext_getElem?
  intro i
  by_cases hi : i < N
  · rw [ofL_get hi, List.getElem?_set]
    by_cases hk : k = i
    · subst hk; simp [updV, ofL_len, hi]
    · rw [if_neg hk, ofL_get hi]; simp [updV, Ne.symm hk]
  · have h1 : ((ofL N F).set k v).length ≤ i := by rw [List.length_set, ofL_len]; omega
    have h2 : (ofL N (updV F k v)).length ≤ i := by rw [ofL_len]; omega
    rw [List.getElem?_eq_none h1, List.getElem?_eq_none h2]
theorem ofL_V {N j : Nat} {F : Nat → Value} (h : j < N) : vp_V (ofL N F) j = F j := by
  unfold vp_V
  first | (rw [List.getD_eq_getElem?_getD, ofL_get h]; rfl) | simp [ofL_get h]
section KR
variable {p : Program} {l : Launch} {e : Env} {R : Room} {s : State} {m : MethodId} {args : Array Value} {below : List Frame} {meth : Method} {c : Code} {H : Heap} {locs : List Loc} {cells slots : Nat} {Q : State → Prop} {cc : ByteArray} {nL pc : Nat} {ls : Array Slot} {rest st0 : List Value} {G : kG} {own : String} {A : Nat → Prop} {ws : va_W}
theorem kOk_lay {C : String} {T : u_T} {N : Nat} {w : Cond} (h : w ∈ u_ws C T N) : kOk w = true := by
  obtain ⟨k, -, rfl⟩ := List.mem_map.mp h
  unfold u_lay
  split <;> rfl
def kFL (own : String) (index ci N k : Nat) : Prop := ∃ (C : String) (T : u_T), vwCl[ci]? = some (C, T, N) ∧ k < N ∧ (∀ w ∈ u_ws C T N, w ∈ lw_tbl) ∧ Cond.fieldLink own index (T k).1 (T k).2.1 (T k).2.2.1 ∈ lw_tbl
def kFN (own : String) (index ci N k : Nat) : Prop := ∃ (C : String) (T : u_T), vwCl[ci]? = some (C, T, N) ∧ k < N ∧ (∀ w ∈ u_ws C T N, w ∈ lw_tbl) ∧ Cond.fieldLinkNest own index (T k).1 (T k).2.1 (T k).2.2.1 "MarshBells" ∈ lw_tbl
/-- a class's fields, for stores -/
def kFT (ci k : Nat) (ty : FieldType) (fin : Bool) (O : String) : Prop := ∃ (C : String) (T : u_T) (N : Nat) (ty0 : Nat → FieldType), vwCl[ci]? = some (C, T, N) ∧ (∀ k, k < N → parseFieldDescriptor (T k).2.2.1 = some (ty0 k)) ∧ (∀ a, a < N → ∀ b, b < N → a ≠ b → (T a).2.1 ≠ (T b).2.1) ∧ (T k).2.2.2 = fin ∧ parseFieldDescriptor (T k).2.2.1 = some ty ∧ (T k).1 = O
theorem k_get {index ci N k a : Nat} {F : Nat → Value} {v : Value} (L : kFL own index ci N k) (C : kC G p s m c cc nL own A) (hP : va_P G.1 vwCl ws H) (q0 : Nat) (he : ws[q0]? = some (a, .inr (ci, ofL N F))) (hv : F k = v) (hdg : decode cc pc = .ok (.getfield index, 3))
    (kk : W p l e R s m args below meth c H locs cells slots Q (F0 m (pc + 3) ls (v :: rest))) : W p l e R s m args below meth c H locs cells slots Q (F0 m pc ls (.ref a :: rest)) := by
  obtain ⟨Cn, T, h1, h2, h3, h4⟩ := L
  obtain ⟨hx, hb, -, hown, hE, -, -⟩ := C
  exact va_get (ci := ci) hx hb (Ts := u_ws Cn T N) (fun w h => hE.w (h3 w h) (kOk_lay h)) (fun _ h => h) hown hE.2.1 hP q0 he h1 k h2 (hE.w h4 rfl) (fun _ h => h) (by rw [ofL_get h2, hv]) hdg kk
theorem k_getN {index ci N k a : Nat} {F : Nat → Value} {v : Value} (L : kFN own index ci N k) (C : kC G p s m c cc nL own A) (hP : va_P G.1 vwCl ws H) (q0 : Nat) (he : ws[q0]? = some (a, .inr (ci, ofL N F))) (hv : F k = v) (hdg : decode cc pc = .ok (.getfield index, 3))
    (kk : W p l e R s m args below meth c H locs cells slots Q (F0 m (pc + 3) ls (v :: rest))) : W p l e R s m args below meth c H locs cells slots Q (F0 m pc ls (.ref a :: rest)) := by
  obtain ⟨Cn, T, h1, h2, h3, h4⟩ := L
  obtain ⟨hx, hb, -, hown, hE, -, -⟩ := C
  exact va_getN (ci := ci) hx hb (Ts := u_ws Cn T N) (fun w h => hE.w (h3 w h) (kOk_lay h)) (fun _ h => h) hown hE.2.1 hP q0 he h1 k h2 (hE.w h4 rfl) (fun _ h => h) (by rw [ofL_get h2, hv]) hdg kk
theorem k_put {index ci N k a : Nat} {ty : FieldType} {F : Nat → Value} {v : Value} {O : String} (L : kFL own index ci N k) (FT : kFT ci k ty false O) (C : kC G p s m c cc nL own A) (hP : va_P G.1 vwCl ws H) (hD : va_D A ws) (hS : va_S A s.heap H locs) (q0 : Nat) (he : ws[q0]? = some (a, .inr (ci, ofL N F))) (hn : narrow ty v = v) (hfit : fits ty v = true) (hdg : decode cc pc = .ok (.putfield index, 3))
    (kk : ∀ (H1 : Heap) (locs1 : List Loc), va_P G.1 vwCl (ws.set q0 (a, .inr (ci, ofL N (updV F k v)))) H1 → va_D A (ws.set q0 (a, .inr (ci, ofL N (updV F k v)))) → va_S A s.heap H1 locs1 → W p l e R s m args below meth c H1 locs1 cells slots Q (F0 m (pc + 3) ls rest)) : W p l e R s m args below meth c H locs cells slots Q (F0 m pc ls (v :: .ref a :: rest)) := by
  obtain ⟨Cn, T, h1, h2, h3, h4⟩ := L
  obtain ⟨C2, T2, N2, ty0, f1, f2, f3, f4, f5, f6⟩ := FT
  cases Option.some.inj (h1.symm.trans f1)
  obtain ⟨hx, hb, -, hown, hE, -, -⟩ := C
  rw [← ofL_set] at kk
  exact va_put (ci := ci) hx hb (Ts := u_ws Cn T N) (fun w h => hE.w (h3 w h) (kOk_lay h)) (fun _ h => h) ty0 f2 f3 hown hE.2.1 hP hD hS q0 he h1 k h2 (hE.w h4 rfl) (fun _ h => h) f4 f5 hn hfit (by rw [ofL_len]; exact h2) hdg kk
theorem k_putN {index ci N k a : Nat} {ty : FieldType} {F : Nat → Value} {v : Value} {O : String} (L : kFN own index ci N k) (FT : kFT ci k ty false O) (C : kC G p s m c cc nL own A) (hP : va_P G.1 vwCl ws H) (hD : va_D A ws) (hS : va_S A s.heap H locs) (q0 : Nat) (he : ws[q0]? = some (a, .inr (ci, ofL N F))) (hn : narrow ty v = v) (hfit : fits ty v = true) (hdg : decode cc pc = .ok (.putfield index, 3))
    (kk : ∀ (H1 : Heap) (locs1 : List Loc), va_P G.1 vwCl (ws.set q0 (a, .inr (ci, ofL N (updV F k v)))) H1 → va_D A (ws.set q0 (a, .inr (ci, ofL N (updV F k v)))) → va_S A s.heap H1 locs1 → W p l e R s m args below meth c H1 locs1 cells slots Q (F0 m (pc + 3) ls rest)) : W p l e R s m args below meth c H locs cells slots Q (F0 m pc ls (v :: .ref a :: rest)) := by
  obtain ⟨Cn, T, h1, h2, h3, h4⟩ := L
  obtain ⟨C2, T2, N2, ty0, f1, f2, f3, f4, f5, f6⟩ := FT
  cases Option.some.inj (h1.symm.trans f1)
  obtain ⟨hx, hb, -, hown, hE, -, -⟩ := C
  rw [← ofL_set] at kk
  exact va_putN (ci := ci) hx hb (Ts := u_ws Cn T N) (fun w h => hE.w (h3 w h) (kOk_lay h)) (fun _ h => h) ty0 f2 f3 hown hE.2.1 hP hD hS q0 he h1 k h2 (hE.w h4 rfl) (fun _ h => h) f4 f5 hn hfit (by rw [ofL_len]; exact h2) hdg kk
theorem k_putF {index ci N k a : Nat} {ty : FieldType} {F : Nat → Value} {v : Value} (L : kFL own index ci N k) (FT : kFT ci k ty true own) (C : kC G p s m c cc nL own A) (hin2 : meth.name = "<init>") (hP : va_P G.1 vwCl ws H) (hD : va_D A ws) (hS : va_S A s.heap H locs) (q0 : Nat) (he : ws[q0]? = some (a, .inr (ci, ofL N F))) (hn : narrow ty v = v) (hfit : fits ty v = true) (hdg : decode cc pc = .ok (.putfield index, 3))
    (kk : ∀ (H1 : Heap) (locs1 : List Loc), va_P G.1 vwCl (ws.set q0 (a, .inr (ci, ofL N (updV F k v)))) H1 → va_D A (ws.set q0 (a, .inr (ci, ofL N (updV F k v)))) → va_S A s.heap H1 locs1 → W p l e R s m args below meth c H1 locs1 cells slots Q (F0 m (pc + 3) ls rest)) : W p l e R s m args below meth c H locs cells slots Q (F0 m pc ls (v :: .ref a :: rest)) := by
  obtain ⟨Cn, T, h1, h2, h3, h4⟩ := L
  obtain ⟨C2, T2, N2, ty0, f1, f2, f3, f4, f5, f6⟩ := FT
  cases Option.some.inj (h1.symm.trans f1)
  obtain ⟨hx, hb, -, hown, hE, -, -⟩ := C
  rw [← ofL_set] at kk
  exact va_putF (ci := ci) hx hb (Ts := u_ws Cn T N) (fun w h => hE.w (h3 w h) (kOk_lay h)) (fun _ h => h) ty0 f2 f3 hown hE.2.1 hP hD hS q0 he h1 k h2 (hE.w h4 rfl) (fun _ h => h) f4 hin2 f6 f5 hn hfit (by rw [ofL_len]; exact h2) hdg kk
theorem k_iald {a n : Nat} {f : Nat → Int32} {i : Int32} (C : kC G p s m c cc nL own A) (hP : va_P G.1 vwCl ws H) (q0 : Nat) (ha : ws[q0]? = some (a, .inl (G.2.1, n, .inl f))) (hin : vp_in i n) (hdg : decode cc pc = .ok (.iaload, 1)) (kk : W p l e R s m args below meth c H locs cells slots Q (F0 m (pc + 1) ls (.int (f i.toNatClampNeg) :: rest))) : W p l e R s m args below meth c H locs cells slots Q (F0 m pc ls (.int i :: .ref a :: rest)) :=
  va_iald C.1 C.2.1 C.2.2.2.2.1.2.1 hP q0 0 ha rfl hin hdg kk
theorem k_iast {a n : Nat} {f : Nat → Int32} {i x : Int32} (C : kC G p s m c cc nL own A) (hP : va_P G.1 vwCl ws H) (hD : va_D A ws) (hS : va_S A s.heap H locs) (q0 : Nat) (ha : ws[q0]? = some (a, .inl (G.2.1, n, .inl f))) (hin : vp_in i n) (hdg : decode cc pc = .ok (.iastore, 1)) (kk : ∀ (H1 : Heap) (locs1 : List Loc), va_P G.1 vwCl (ws.set q0 (a, .inl (G.2.1, n, .inl (upd f i.toNatClampNeg x)))) H1 → va_D A (ws.set q0 (a, .inl (G.2.1, n, .inl (upd f i.toNatClampNeg x)))) → va_S A s.heap H1 locs1 → W p l e R s m args below meth c H1 locs1 cells slots Q (F0 m (pc + 1) ls rest)) : W p l e R s m args below meth c H locs cells slots Q (F0 m pc ls (.int x :: .int i :: .ref a :: rest)) :=
  va_iast C.1 C.2.1 C.2.2.2.2.1.2.1 hP hD hS q0 0 ha rfl hin hdg kk
theorem k_zald {a n : Nat} {f : Nat → Int32} {i : Int32} (C : kC G p s m c cc nL own A) (hP : va_P G.1 vwCl ws H) (q0 : Nat) (ha : ws[q0]? = some (a, .inl (G.2.2.1, n, .inl f))) (hin : vp_in i n) (hdg : decode cc pc = .ok (.baload, 1)) (kk : W p l e R s m args below meth c H locs cells slots Q (F0 m (pc + 1) ls (.int (f i.toNatClampNeg) :: rest))) : W p l e R s m args below meth c H locs cells slots Q (F0 m pc ls (.int i :: .ref a :: rest)) :=
  va_zald C.1 C.2.1 C.2.2.2.2.1.2.1 hP q0 1 ha rfl hin hdg kk
theorem k_zast {a n : Nat} {f : Nat → Int32} {i x : Int32} (C : kC G p s m c cc nL own A) (hP : va_P G.1 vwCl ws H) (hD : va_D A ws) (hS : va_S A s.heap H locs) (q0 : Nat) (ha : ws[q0]? = some (a, .inl (G.2.2.1, n, .inl f))) (hin : vp_in i n) (hdg : decode cc pc = .ok (.bastore, 1)) (kk : ∀ (H1 : Heap) (locs1 : List Loc), va_P G.1 vwCl (ws.set q0 (a, .inl (G.2.2.1, n, .inl (upd f i.toNatClampNeg (vp_nar .boolean x))))) H1 → va_D A (ws.set q0 (a, .inl (G.2.2.1, n, .inl (upd f i.toNatClampNeg (vp_nar .boolean x))))) → va_S A s.heap H1 locs1 → W p l e R s m args below meth c H1 locs1 cells slots Q (F0 m (pc + 1) ls rest)) : W p l e R s m args below meth c H locs cells slots Q (F0 m pc ls (.int x :: .int i :: .ref a :: rest)) :=
  va_zast C.1 C.2.1 C.2.2.2.2.1.2.1 hP hD hS q0 1 ha rfl hin hdg kk
theorem k_lald {a n : Nat} {f : Nat → Int64} {i : Int32} (C : kC G p s m c cc nL own A) (hP : va_P G.1 vwCl ws H) (q0 : Nat) (ha : ws[q0]? = some (a, .inl (G.2.2.2.2.1, n, .inr (.inl f)))) (hin : vp_in i n) (hdg : decode cc pc = .ok (.laload, 1)) (kk : W p l e R s m args below meth c H locs cells slots Q (F0 m (pc + 1) ls (.long (f i.toNatClampNeg) :: rest))) : W p l e R s m args below meth c H locs cells slots Q (F0 m pc ls (.int i :: .ref a :: rest)) :=
  va_lald C.1 C.2.1 C.2.2.2.2.1.2.1 hP q0 3 ha rfl hin hdg kk
theorem k_last {a n : Nat} {f : Nat → Int64} {i : Int32} {x : Int64} (C : kC G p s m c cc nL own A) (hP : va_P G.1 vwCl ws H) (hD : va_D A ws) (hS : va_S A s.heap H locs) (q0 : Nat) (ha : ws[q0]? = some (a, .inl (G.2.2.2.2.1, n, .inr (.inl f)))) (hin : vp_in i n) (hdg : decode cc pc = .ok (.lastore, 1)) (kk : ∀ (H1 : Heap) (locs1 : List Loc), va_P G.1 vwCl (ws.set q0 (a, .inl (G.2.2.2.2.1, n, .inr (.inl (vp_updL f i.toNatClampNeg x))))) H1 → va_D A (ws.set q0 (a, .inl (G.2.2.2.2.1, n, .inr (.inl (vp_updL f i.toNatClampNeg x))))) → va_S A s.heap H1 locs1 → W p l e R s m args below meth c H1 locs1 cells slots Q (F0 m (pc + 1) ls rest)) : W p l e R s m args below meth c H locs cells slots Q (F0 m pc ls (.long x :: .int i :: .ref a :: rest)) :=
  va_last C.1 C.2.1 C.2.2.2.2.1.2.1 hP hD hS q0 3 ha rfl hin hdg kk
theorem k_alen {a n : Nat} {f : Nat → Int32} {v : Int32} (C : kC G p s m c cc nL own A) (hP : va_P G.1 vwCl ws H) (q0 : Nat) (ha : ws[q0]? = some (a, .inl (G.2.1, n, .inl f))) (hv : Int32.ofNat n = v) (hdg : decode cc pc = .ok (.arraylength, 1)) (kk : W p l e R s m args below meth c H locs cells slots Q (F0 m (pc + 1) ls (.int v :: rest))) : W p l e R s m args below meth c H locs cells slots Q (F0 m pc ls (.ref a :: rest)) :=
  va_alen C.1 C.2.1 C.2.2.2.2.1.2.1 hP q0 0 ha rfl hv hdg kk
theorem k_newI {N' : Nat} {n : Int32} (hm : Cond.arrayClass .int ∈ lw_tbl) (C : kC G p s m c cc nL own A) (hP : va_P G.1 vwCl ws H) (hD : va_D A ws) (hS : va_S A s.heap H locs) (hn : ¬ n < 0) (hN : n.toNatClampNeg = N') (hbytes : N' * componentBytes .int ≤ 536870912) (hcells : cells + 1 ≤ R.cells) (hslots : slots + N' ≤ R.slots) (hdg : decode cc pc = .ok (.newarray .int, 2))
    (kk : ∀ (q : Nat) (H1 : Heap), va_P G.1 vwCl (ws ++ [(q, .inl (G.2.1, N', .inl (fun _ => 0)))]) H1 → va_D A (ws ++ [(q, .inl (G.2.1, N', .inl (fun _ => 0)))]) → va_S A s.heap H1 locs → W p l e R s m args below meth c H1 locs (cells + 1) (slots + N') Q (F0 m (pc + 2) ls (.ref q :: rest))) : W p l e R s m args below meth c H locs cells slots Q (F0 m pc ls (.int n :: rest)) := by
  obtain ⟨hx, hb, -, hown, hE, -, hA⟩ := C
  refine va_newa hx hb (atype := .int) (hE.w (w := .arrayClass .int) hm rfl) rfl hE.2.1 hP hD hS hA (a0 := (N', .inl (fun _ => 0))) (fun _ => rfl) hn hN hbytes hcells hslots hdg (fun q cA H1 hK' hP' hD' hS' => ?_)
  have e1 : s.vm.findClass ("[" ++ FieldType.toString .int) = some cA := (hK'.2 4 _ rfl).2
  have e2 : s.vm.findClass ("[" ++ FieldType.toString .int) = some G.2.1 := (hE.2.1.2 0 _ rfl).2
  cases Option.some.inj (e1.symm.trans e2)
  exact kk q H1 hP' hD' hS'
theorem k_newZ {N' : Nat} {n : Int32} (hm : Cond.arrayClass .boolean ∈ lw_tbl) (C : kC G p s m c cc nL own A) (hP : va_P G.1 vwCl ws H) (hD : va_D A ws) (hS : va_S A s.heap H locs) (hn : ¬ n < 0) (hN : n.toNatClampNeg = N') (hbytes : N' * componentBytes .boolean ≤ 536870912) (hcells : cells + 1 ≤ R.cells) (hslots : slots + N' ≤ R.slots) (hdg : decode cc pc = .ok (.newarray .boolean, 2))
    (kk : ∀ (q : Nat) (H1 : Heap), va_P G.1 vwCl (ws ++ [(q, .inl (G.2.2.1, N', .inl (fun _ => 0)))]) H1 → va_D A (ws ++ [(q, .inl (G.2.2.1, N', .inl (fun _ => 0)))]) → va_S A s.heap H1 locs → W p l e R s m args below meth c H1 locs (cells + 1) (slots + N') Q (F0 m (pc + 2) ls (.ref q :: rest))) : W p l e R s m args below meth c H locs cells slots Q (F0 m pc ls (.int n :: rest)) := by
  obtain ⟨hx, hb, -, hown, hE, -, hA⟩ := C
  refine va_newa hx hb (atype := .boolean) (hE.w (w := .arrayClass .boolean) hm rfl) rfl hE.2.1 hP hD hS hA (a0 := (N', .inl (fun _ => 0))) (fun _ => rfl) hn hN hbytes hcells hslots hdg (fun q cA H1 hK' hP' hD' hS' => ?_)
  have e1 : s.vm.findClass ("[" ++ FieldType.toString .boolean) = some cA := (hK'.2 4 _ rfl).2
  have e2 : s.vm.findClass ("[" ++ FieldType.toString .boolean) = some G.2.2.1 := (hE.2.1.2 1 _ rfl).2
  cases Option.some.inj (e1.symm.trans e2)
  exact kk q H1 hP' hD' hS'
theorem k_newJ {N' : Nat} {n : Int32} (hm : Cond.arrayClass .long ∈ lw_tbl) (C : kC G p s m c cc nL own A) (hP : va_P G.1 vwCl ws H) (hD : va_D A ws) (hS : va_S A s.heap H locs) (hn : ¬ n < 0) (hN : n.toNatClampNeg = N') (hbytes : N' * componentBytes .long ≤ 536870912) (hcells : cells + 1 ≤ R.cells) (hslots : slots + N' ≤ R.slots) (hdg : decode cc pc = .ok (.newarray .long, 2))
    (kk : ∀ (q : Nat) (H1 : Heap), va_P G.1 vwCl (ws ++ [(q, .inl (G.2.2.2.2.1, N', .inr (.inl (fun _ => 0))))]) H1 → va_D A (ws ++ [(q, .inl (G.2.2.2.2.1, N', .inr (.inl (fun _ => 0))))]) → va_S A s.heap H1 locs → W p l e R s m args below meth c H1 locs (cells + 1) (slots + N') Q (F0 m (pc + 2) ls (.ref q :: rest))) : W p l e R s m args below meth c H locs cells slots Q (F0 m pc ls (.int n :: rest)) := by
  obtain ⟨hx, hb, -, hown, hE, -, hA⟩ := C
  refine va_newa hx hb (atype := .long) (hE.w (w := .arrayClass .long) hm rfl) rfl hE.2.1 hP hD hS hA (a0 := (N', .inr (.inl (fun _ => 0)))) (fun _ => rfl) hn hN hbytes hcells hslots hdg (fun q cA H1 hK' hP' hD' hS' => ?_)
  have e1 : s.vm.findClass ("[" ++ FieldType.toString .long) = some cA := (hK'.2 4 _ rfl).2
  have e2 : s.vm.findClass ("[" ++ FieldType.toString .long) = some G.2.2.2.2.1 := (hE.2.1.2 3 _ rfl).2
  cases Option.some.inj (e1.symm.trans e2)
  exact kk q H1 hP' hD' hS'
theorem k_newL {N' index : Nat} {n : Int32} (hm : Cond.classLink own index "MarshBells$Lesson" ∈ lw_tbl) (C : kC G p s m c cc nL own A) (hP : va_P G.1 vwCl ws H) (hD : va_D A ws) (hS : va_S A s.heap H locs) (hn : ¬ n < 0) (hN : n.toNatClampNeg = N') (hbytes : N' * 4 ≤ 536870912) (hcells : cells + 1 ≤ R.cells) (hslots : slots + N' ≤ R.slots) (hdg : decode cc pc = .ok (.anewarray index, 3))
    (kk : ∀ (q : Nat) (H1 : Heap), va_P G.1 vwCl (ws ++ [(q, .inl (G.2.2.2.1, N', .inr (.inr (.inr (.inr (fun _ => none))))))]) H1 → va_D A (ws ++ [(q, .inl (G.2.2.2.1, N', .inr (.inr (.inr (.inr (fun _ => none))))))]) → va_S A s.heap H1 locs → W p l e R s m args below meth c H1 locs (cells + 1) (slots + N') Q (F0 m (pc + 3) ls (.ref q :: rest))) : W p l e R s m args below meth c H locs cells slots Q (F0 m pc ls (.int n :: rest)) := by
  obtain ⟨hx, hb, -, hown, hE, -, hA⟩ := C
  refine va_newq hx hb hown (hE.w hm rfl) hE.2.2.1 hE.2.1 hP hD hS hA hn hN hbytes hcells hslots hdg (fun q cA H1 hK' hP' hD' hS' => ?_)
  obtain ⟨kA, comp, -, -, -, e1⟩ : va_RA s cA (.object "MarshBells$Lesson") := (hK'.2 4 _ rfl).2
  obtain ⟨kA2, comp2, -, -, -, e2⟩ : va_RA s G.2.2.2.1 (.object "MarshBells$Lesson") := (hE.2.1.2 2 _ rfl).2
  cases Option.some.inj (e1.symm.trans e2)
  exact kk q H1 hP' hD' hS'
theorem k_new {index ci N : Nat} {Cn : String} {T : u_T} {F : Nat → Value} (ty : Nat → FieldType) (hin : ∀ w ∈ u_ws Cn T N, w ∈ lw_tbl) (hty : ∀ k, k < N → parseFieldDescriptor (T k).2.2.1 = some (ty k)) (hm : Cond.classLink own index Cn ∈ lw_tbl ∧ Cond.instantiable Cn N ∈ lw_tbl ∧ Cond.initialized Cn ∈ lw_tbl) (hc : vwCl[ci]? = some (Cn, T, N)) (hfs : ∀ j, j < N → defaultValue (ty j) = F j)
    (C : kC G p s m c cc nL own A) (hP : va_P G.1 vwCl ws H) (hD : va_D A ws) (hS : va_S A s.heap H locs) (hcells : cells + 1 ≤ R.cells) (hslots : slots + N ≤ R.slots) (hdg : decode cc pc = .ok (.new index, 3))
    (kk : ∀ (q : Nat) (H1 : Heap), va_P G.1 vwCl (ws ++ [(q, .inr (ci, ofL N F))]) H1 → va_D A (ws ++ [(q, .inr (ci, ofL N F))]) → va_S A s.heap H1 locs → W p l e R s m args below meth c H1 locs (cells + 1) (slots + N) Q (F0 m (pc + 3) ls (.ref q :: rest))) : W p l e R s m args below meth c H locs cells slots Q (F0 m pc ls rest) := by
  obtain ⟨hx, hb, -, hown, hE, -, hA⟩ := C
  exact va_new (ci := ci) hx hb (Ts := u_ws Cn T N) (fun w h => hE.w (hin w h) (kOk_lay h)) (fun _ h => h) ty hty hown (hE.w hm.1 rfl) (hE.w hm.2.1 rfl) (hE.w hm.2.2 rfl) hE.2.1 hP hD hS hA hc (fun j hj => by rw [hfs j hj, ofL_V hj]) hcells hslots hdg kk
theorem k_obj {index a : Nat} (hm : Cond.methodLink own index Lib.objectInit ∈ lw_tbl ∧ Cond.instanceMethod Lib.objectInit ∈ lw_tbl ∧ Cond.code Lib.objectInit ⟨#[0xb1]⟩ 1 none ∈ lw_tbl) (C : kC G p s m c cc nL own A) (hsz : ls.size = nL) (hdg : decode cc pc = .ok (.invokespecial index, 3)) (hf : 1 ≤ R.frames) (hl : (rest.map fun v => v.category).sum + 12 ≤ R.locals)
    (kk : W p l e R s m args below meth c H locs cells slots Q (F0 m (pc + 3) ls rest)) : W p l e R s m args below meth c H locs cells slots Q (F0 m pc ls (.ref a :: rest)) := by
  obtain ⟨hx, hb, hml, hown, hE, -, hA⟩ := C
  exact W.objInit hx hb hown (hE.w hm.1 rfl) (hE.w hm.2.1 rfl) (hE.w hm.2.2 rfl) rfl (hsz.trans hml.symm) rfl hdg hf (by show 2 * 0 + _ + 12 ≤ _; omega) kk
theorem k_fm {ws wc : va_W} {is : List Nat} (h : is.map (fun i => ws[i]?) = wc.map some) : is.filterMap (fun i => ws[i]?) = wc := by
  have e : is.filterMap (fun i => ws[i]?) = (is.map (fun i => ws[i]?)).filterMap id := by rw [List.filterMap_map]; rfl
  rw [e, h, List.filterMap_map]
  exact List.filterMap_some
theorem k_cut {wc : va_W} (C : kC G p s m c cc nL own A) (hP : va_P G.1 vwCl ws H) (hD : va_D A ws) (hS : va_S A s.heap H locs) (isC : List Nat) (hC : isC.map (fun i => ws[i]?) = wc.map some) (hn0 : va_nd isC = true) (av : List Value) :
    va_P G.1 vwCl wc H ∧ (∀ q, va_A wc H.size q → A q) ∧ ∀ U : State, U.heap = H → s.WarmedH U.vm → kP G av wc H.size av.toArray U := by
  obtain ⟨hx, hb, hml, hown, hE, hXx, hA⟩ := C
  have hPc : va_P G.1 vwCl wc H := hP.sub isC (k_fm hC)
  have hDc : va_D A wc := hD.sub isC hn0 hC
  have hFc := va_free (wc := wc) hD hS hA isC hC
  refine ⟨hPc, hFc, fun U hU hW => ⟨rfl, by rw [hU], by rw [hU]; exact hPc, hDc.weaken (fun _ _ _ _ => trivial), hE.warm hW, ?_⟩⟩
  rw [hU]
  exact ((hXx.kept hS.2.1).narrow hFc).moved hW.alike
theorem k_callVi {S : Type} {post : Int32 → S → Prop} {w : S → va_W} {index n maxL : Nat} {y : MethodName} {bytes : ByteArray} {rm : Room} {b : Nat} {As : List Value} {wc wr : va_W} {Cn : String} {ret : Option FieldType} (L : kLV own index Cn y bytes maxL ret n) (C : kC G p s m c cc nL own A) (hM : kM l y bytes maxL ret rm G (.ref b :: As) wc H.size (kQi G post w)) (hR : kLR rm R maxL cells slots) (hP : va_P G.1 vwCl ws H) (hD : va_D A ws) (hS : va_S A s.heap H locs) (isC isR : List Nat) (hC : isC.map (fun i => ws[i]?) = wc.map some) (hRr : isR.map (fun i => ws[i]?) = wr.map some) (hn0 : va_nd isC = true) (hn1 : va_nd isR = true) (hdis : ∀ i ∈ isR, i ∉ isC) (q0 ci : Nat) {cq : u_T × Nat} (hq : vwCl[ci]? = some (Cn, cq)) {fs : List Value} (he : wc[q0]? = some (b, .inr (ci, fs))) (hn : As.length = n) (hsz : ls.size = nL) (hst : st0 = As.reverse ++ .ref b :: rest) (hW : (rest.map fun v => v.category).sum ≤ 8) (hdg : decode cc pc = .ok (.invokevirtual index, 3))
    (kk : ∀ (r : Int32) (u : S) (H1 : Heap) (locs1 : List Loc), post r u → va_P G.1 vwCl (wr ++ w u) H1 → va_D A (wr ++ w u) → va_S A s.heap H1 locs1 → W p l e R s m args below meth c H1 locs1 (cells + rm.cells) (slots + rm.slots) Q (F0 m (pc + 3) ls (.int r :: rest))) : W p l e R s m args below meth c H locs cells slots Q (F0 m pc ls st0) := by
  obtain ⟨hPc, hFc, hpre⟩ := k_cut C hP hD hS isC hC hn0 (.ref b :: As)
  obtain ⟨hx, hb, hml, hown, hE, hXx, hA⟩ := C
  obtain ⟨w1, w2, w3, w4, w5, w6⟩ := L
  refine va_calli (a := (.ref b :: As).toArray) (va_runV (As := As) (rest := rest) (Ts := []) ⟨hx, hb, hml, hown, fun _ h => nomatch h⟩ hM ⟨⟨rfl, rfl, hR.1, hR.2.1, (fun w hw a' U hW => by rw [List.mem_singleton.mp hw]; exact (hE.warm hW).w w4 rfl), List.mem_cons_self, hE.w w4 rfl, hE.w w5 rfl, ⟨w6.2.1, w6.2.2.1⟩, (fun sig h => by have h2 := w6.2.2.2; rw [h] at h2; exact (Option.some.inj h2).symm), hE.w w1 rfl⟩, hE.w w2 rfl, hE.w w3 rfl⟩ ⟨kP.blind, va_recv hE.2.1 hPc hq he, hpre⟩ rfl hn hsz hst (lv_room hW) hdg ⟨hR.2.2.1, hR.2.2.2⟩) hS (fun q _ h => hFc q h) hFc (fun r u t H1 locs1 ht hvm hw hB hz1 hk1 hS1 => ?_)
  obtain ⟨hB1, hB2⟩ := hB
  rw [ht] at hB1
  obtain ⟨hP1, hD1⟩ := va_join hP hD isC isR hC hRr hn1 hdis hk1 hFc hB1 hB2
  exact kk r u H1 locs1 hw hP1 hD1 hS1
theorem k_callVv {S : Type} {post : S → Prop} {w : S → va_W} {index n maxL : Nat} {y : MethodName} {bytes : ByteArray} {rm : Room} {b : Nat} {As : List Value} {wc wr : va_W} {Cn : String} {ret : Option FieldType} (L : kLV own index Cn y bytes maxL ret n) (C : kC G p s m c cc nL own A) (hM : kM l y bytes maxL ret rm G (.ref b :: As) wc H.size (kQv G post w)) (hR : kLR rm R maxL cells slots) (hP : va_P G.1 vwCl ws H) (hD : va_D A ws) (hS : va_S A s.heap H locs) (isC isR : List Nat) (hC : isC.map (fun i => ws[i]?) = wc.map some) (hRr : isR.map (fun i => ws[i]?) = wr.map some) (hn0 : va_nd isC = true) (hn1 : va_nd isR = true) (hdis : ∀ i ∈ isR, i ∉ isC) (q0 ci : Nat) {cq : u_T × Nat} (hq : vwCl[ci]? = some (Cn, cq)) {fs : List Value} (he : wc[q0]? = some (b, .inr (ci, fs))) (hn : As.length = n) (hsz : ls.size = nL) (hst : st0 = As.reverse ++ .ref b :: rest) (hW : (rest.map fun v => v.category).sum ≤ 8) (hdg : decode cc pc = .ok (.invokevirtual index, 3))
    (kk : ∀ (u : S) (H1 : Heap) (locs1 : List Loc), post u → va_P G.1 vwCl (wr ++ w u) H1 → va_D A (wr ++ w u) → va_S A s.heap H1 locs1 → W p l e R s m args below meth c H1 locs1 (cells + rm.cells) (slots + rm.slots) Q (F0 m (pc + 3) ls rest)) : W p l e R s m args below meth c H locs cells slots Q (F0 m pc ls st0) := by
  obtain ⟨hPc, hFc, hpre⟩ := k_cut C hP hD hS isC hC hn0 (.ref b :: As)
  obtain ⟨hx, hb, hml, hown, hE, hXx, hA⟩ := C
  obtain ⟨w1, w2, w3, w4, w5, w6⟩ := L
  refine va_callv (a := (.ref b :: As).toArray) (va_runV (As := As) (rest := rest) (Ts := []) ⟨hx, hb, hml, hown, fun _ h => nomatch h⟩ hM ⟨⟨rfl, rfl, hR.1, hR.2.1, (fun w hw a' U hW => by rw [List.mem_singleton.mp hw]; exact (hE.warm hW).w w4 rfl), List.mem_cons_self, hE.w w4 rfl, hE.w w5 rfl, ⟨w6.2.1, w6.2.2.1⟩, (fun sig h => by have h2 := w6.2.2.2; rw [h] at h2; exact (Option.some.inj h2).symm), hE.w w1 rfl⟩, hE.w w2 rfl, hE.w w3 rfl⟩ ⟨kP.blind, va_recv hE.2.1 hPc hq he, hpre⟩ rfl hn hsz hst (lv_room hW) hdg ⟨hR.2.2.1, hR.2.2.2⟩) hS (fun q _ h => hFc q h) hFc (fun u t H1 locs1 ht hvm hw hB hz1 hk1 hS1 => ?_)
  obtain ⟨hB1, hB2⟩ := hB
  rw [ht] at hB1
  obtain ⟨hP1, hD1⟩ := va_join hP hD isC isR hC hRr hn1 hdis hk1 hFc hB1 hB2
  exact kk u H1 locs1 hw hP1 hD1 hS1
theorem k_callVl {S : Type} {post : Int64 → S → Prop} {w : S → va_W} {index n maxL : Nat} {y : MethodName} {bytes : ByteArray} {rm : Room} {b : Nat} {As : List Value} {wc wr : va_W} {Cn : String} {ret : Option FieldType} (L : kLV own index Cn y bytes maxL ret n) (C : kC G p s m c cc nL own A) (hM : kM l y bytes maxL ret rm G (.ref b :: As) wc H.size (kQl G post w)) (hR : kLR rm R maxL cells slots) (hP : va_P G.1 vwCl ws H) (hD : va_D A ws) (hS : va_S A s.heap H locs) (isC isR : List Nat) (hC : isC.map (fun i => ws[i]?) = wc.map some) (hRr : isR.map (fun i => ws[i]?) = wr.map some) (hn0 : va_nd isC = true) (hn1 : va_nd isR = true) (hdis : ∀ i ∈ isR, i ∉ isC) (q0 ci : Nat) {cq : u_T × Nat} (hq : vwCl[ci]? = some (Cn, cq)) {fs : List Value} (he : wc[q0]? = some (b, .inr (ci, fs))) (hn : As.length = n) (hsz : ls.size = nL) (hst : st0 = As.reverse ++ .ref b :: rest) (hW : (rest.map fun v => v.category).sum ≤ 8) (hdg : decode cc pc = .ok (.invokevirtual index, 3))
    (kk : ∀ (r : Int64) (u : S) (H1 : Heap) (locs1 : List Loc), post r u → va_P G.1 vwCl (wr ++ w u) H1 → va_D A (wr ++ w u) → va_S A s.heap H1 locs1 → W p l e R s m args below meth c H1 locs1 (cells + rm.cells) (slots + rm.slots) Q (F0 m (pc + 3) ls (.long r :: rest))) : W p l e R s m args below meth c H locs cells slots Q (F0 m pc ls st0) := by
  obtain ⟨hPc, hFc, hpre⟩ := k_cut C hP hD hS isC hC hn0 (.ref b :: As)
  obtain ⟨hx, hb, hml, hown, hE, hXx, hA⟩ := C
  obtain ⟨w1, w2, w3, w4, w5, w6⟩ := L
  refine va_calll (a := (.ref b :: As).toArray) (va_runV (As := As) (rest := rest) (Ts := []) ⟨hx, hb, hml, hown, fun _ h => nomatch h⟩ hM ⟨⟨rfl, rfl, hR.1, hR.2.1, (fun w hw a' U hW => by rw [List.mem_singleton.mp hw]; exact (hE.warm hW).w w4 rfl), List.mem_cons_self, hE.w w4 rfl, hE.w w5 rfl, ⟨w6.2.1, w6.2.2.1⟩, (fun sig h => by have h2 := w6.2.2.2; rw [h] at h2; exact (Option.some.inj h2).symm), hE.w w1 rfl⟩, hE.w w2 rfl, hE.w w3 rfl⟩ ⟨kP.blind, va_recv hE.2.1 hPc hq he, hpre⟩ rfl hn hsz hst (lv_room hW) hdg ⟨hR.2.2.1, hR.2.2.2⟩) hS (fun q _ h => hFc q h) hFc (fun r u t H1 locs1 ht hvm hw hB hz1 hk1 hS1 => ?_)
  obtain ⟨hB1, hB2⟩ := hB
  rw [ht] at hB1
  obtain ⟨hP1, hD1⟩ := va_join hP hD isC isR hC hRr hn1 hdis hk1 hFc hB1 hB2
  exact kk r u H1 locs1 hw hP1 hD1 hS1
theorem k_callNi {S : Type} {post : Int32 → S → Prop} {w : S → va_W} {index n maxL : Nat} {y : MethodName} {bytes : ByteArray} {rm : Room} {b : Nat} {As : List Value} {wc wr : va_W} {Cn host : String} {ret : Option FieldType} (L : kLN own index Cn y host bytes maxL ret n) (C : kC G p s m c cc nL own A) (hM : kM l y bytes maxL ret rm G (.ref b :: As) wc H.size (kQi G post w)) (hR : kLR rm R maxL cells slots) (hP : va_P G.1 vwCl ws H) (hD : va_D A ws) (hS : va_S A s.heap H locs) (isC isR : List Nat) (hC : isC.map (fun i => ws[i]?) = wc.map some) (hRr : isR.map (fun i => ws[i]?) = wr.map some) (hn0 : va_nd isC = true) (hn1 : va_nd isR = true) (hdis : ∀ i ∈ isR, i ∉ isC) (q0 ci : Nat) {cq : u_T × Nat} (hq : vwCl[ci]? = some (Cn, cq)) {fs : List Value} (he : wc[q0]? = some (b, .inr (ci, fs))) (hn : As.length = n) (hsz : ls.size = nL) (hst : st0 = As.reverse ++ .ref b :: rest) (hW : (rest.map fun v => v.category).sum ≤ 8) (hdg : decode cc pc = .ok (.invokevirtual index, 3))
    (kk : ∀ (r : Int32) (u : S) (H1 : Heap) (locs1 : List Loc), post r u → va_P G.1 vwCl (wr ++ w u) H1 → va_D A (wr ++ w u) → va_S A s.heap H1 locs1 → W p l e R s m args below meth c H1 locs1 (cells + rm.cells) (slots + rm.slots) Q (F0 m (pc + 3) ls (.int r :: rest))) : W p l e R s m args below meth c H locs cells slots Q (F0 m pc ls st0) := by
  obtain ⟨hPc, hFc, hpre⟩ := k_cut C hP hD hS isC hC hn0 (.ref b :: As)
  obtain ⟨hx, hb, hml, hown, hE, hXx, hA⟩ := C
  obtain ⟨w1, w2, w3, w4, w5, w6⟩ := L
  refine va_calli (a := (.ref b :: As).toArray) (va_runVN (As := As) (rest := rest) (Ts := []) ⟨hx, hb, hml, hown, fun _ h => nomatch h⟩ hM ⟨⟨⟨rfl, rfl, hR.1, hR.2.1, (fun w hw a' U hW => by rw [List.mem_singleton.mp hw]; exact (hE.warm hW).w w4 rfl), List.mem_cons_self⟩, hE.w w4 rfl, hE.w w5 rfl, ⟨w6.2.1, w6.2.2.1⟩, (fun sig h => by have h2 := w6.2.2.2; rw [h] at h2; exact (Option.some.inj h2).symm), hE.w w1 rfl⟩, hE.w w2 rfl, hE.w w3 rfl⟩ ⟨kP.blind, va_recv hE.2.1 hPc hq he, hpre⟩ rfl hn hsz hst (lv_room hW) hdg ⟨hR.2.2.1, hR.2.2.2⟩) hS (fun q _ h => hFc q h) hFc (fun r u t H1 locs1 ht hvm hw hB hz1 hk1 hS1 => ?_)
  obtain ⟨hB1, hB2⟩ := hB
  rw [ht] at hB1
  obtain ⟨hP1, hD1⟩ := va_join hP hD isC isR hC hRr hn1 hdis hk1 hFc hB1 hB2
  exact kk r u H1 locs1 hw hP1 hD1 hS1
theorem k_callNv {S : Type} {post : S → Prop} {w : S → va_W} {index n maxL : Nat} {y : MethodName} {bytes : ByteArray} {rm : Room} {b : Nat} {As : List Value} {wc wr : va_W} {Cn host : String} {ret : Option FieldType} (L : kLN own index Cn y host bytes maxL ret n) (C : kC G p s m c cc nL own A) (hM : kM l y bytes maxL ret rm G (.ref b :: As) wc H.size (kQv G post w)) (hR : kLR rm R maxL cells slots) (hP : va_P G.1 vwCl ws H) (hD : va_D A ws) (hS : va_S A s.heap H locs) (isC isR : List Nat) (hC : isC.map (fun i => ws[i]?) = wc.map some) (hRr : isR.map (fun i => ws[i]?) = wr.map some) (hn0 : va_nd isC = true) (hn1 : va_nd isR = true) (hdis : ∀ i ∈ isR, i ∉ isC) (q0 ci : Nat) {cq : u_T × Nat} (hq : vwCl[ci]? = some (Cn, cq)) {fs : List Value} (he : wc[q0]? = some (b, .inr (ci, fs))) (hn : As.length = n) (hsz : ls.size = nL) (hst : st0 = As.reverse ++ .ref b :: rest) (hW : (rest.map fun v => v.category).sum ≤ 8) (hdg : decode cc pc = .ok (.invokevirtual index, 3))
    (kk : ∀ (u : S) (H1 : Heap) (locs1 : List Loc), post u → va_P G.1 vwCl (wr ++ w u) H1 → va_D A (wr ++ w u) → va_S A s.heap H1 locs1 → W p l e R s m args below meth c H1 locs1 (cells + rm.cells) (slots + rm.slots) Q (F0 m (pc + 3) ls rest)) : W p l e R s m args below meth c H locs cells slots Q (F0 m pc ls st0) := by
  obtain ⟨hPc, hFc, hpre⟩ := k_cut C hP hD hS isC hC hn0 (.ref b :: As)
  obtain ⟨hx, hb, hml, hown, hE, hXx, hA⟩ := C
  obtain ⟨w1, w2, w3, w4, w5, w6⟩ := L
  refine va_callv (a := (.ref b :: As).toArray) (va_runVN (As := As) (rest := rest) (Ts := []) ⟨hx, hb, hml, hown, fun _ h => nomatch h⟩ hM ⟨⟨⟨rfl, rfl, hR.1, hR.2.1, (fun w hw a' U hW => by rw [List.mem_singleton.mp hw]; exact (hE.warm hW).w w4 rfl), List.mem_cons_self⟩, hE.w w4 rfl, hE.w w5 rfl, ⟨w6.2.1, w6.2.2.1⟩, (fun sig h => by have h2 := w6.2.2.2; rw [h] at h2; exact (Option.some.inj h2).symm), hE.w w1 rfl⟩, hE.w w2 rfl, hE.w w3 rfl⟩ ⟨kP.blind, va_recv hE.2.1 hPc hq he, hpre⟩ rfl hn hsz hst (lv_room hW) hdg ⟨hR.2.2.1, hR.2.2.2⟩) hS (fun q _ h => hFc q h) hFc (fun u t H1 locs1 ht hvm hw hB hz1 hk1 hS1 => ?_)
  obtain ⟨hB1, hB2⟩ := hB
  rw [ht] at hB1
  obtain ⟨hP1, hD1⟩ := va_join hP hD isC isR hC hRr hn1 hdis hk1 hFc hB1 hB2
  exact kk u H1 locs1 hw hP1 hD1 hS1
theorem k_callNl {S : Type} {post : Int64 → S → Prop} {w : S → va_W} {index n maxL : Nat} {y : MethodName} {bytes : ByteArray} {rm : Room} {b : Nat} {As : List Value} {wc wr : va_W} {Cn host : String} {ret : Option FieldType} (L : kLN own index Cn y host bytes maxL ret n) (C : kC G p s m c cc nL own A) (hM : kM l y bytes maxL ret rm G (.ref b :: As) wc H.size (kQl G post w)) (hR : kLR rm R maxL cells slots) (hP : va_P G.1 vwCl ws H) (hD : va_D A ws) (hS : va_S A s.heap H locs) (isC isR : List Nat) (hC : isC.map (fun i => ws[i]?) = wc.map some) (hRr : isR.map (fun i => ws[i]?) = wr.map some) (hn0 : va_nd isC = true) (hn1 : va_nd isR = true) (hdis : ∀ i ∈ isR, i ∉ isC) (q0 ci : Nat) {cq : u_T × Nat} (hq : vwCl[ci]? = some (Cn, cq)) {fs : List Value} (he : wc[q0]? = some (b, .inr (ci, fs))) (hn : As.length = n) (hsz : ls.size = nL) (hst : st0 = As.reverse ++ .ref b :: rest) (hW : (rest.map fun v => v.category).sum ≤ 8) (hdg : decode cc pc = .ok (.invokevirtual index, 3))
    (kk : ∀ (r : Int64) (u : S) (H1 : Heap) (locs1 : List Loc), post r u → va_P G.1 vwCl (wr ++ w u) H1 → va_D A (wr ++ w u) → va_S A s.heap H1 locs1 → W p l e R s m args below meth c H1 locs1 (cells + rm.cells) (slots + rm.slots) Q (F0 m (pc + 3) ls (.long r :: rest))) : W p l e R s m args below meth c H locs cells slots Q (F0 m pc ls st0) := by
  obtain ⟨hPc, hFc, hpre⟩ := k_cut C hP hD hS isC hC hn0 (.ref b :: As)
  obtain ⟨hx, hb, hml, hown, hE, hXx, hA⟩ := C
  obtain ⟨w1, w2, w3, w4, w5, w6⟩ := L
  refine va_calll (a := (.ref b :: As).toArray) (va_runVN (As := As) (rest := rest) (Ts := []) ⟨hx, hb, hml, hown, fun _ h => nomatch h⟩ hM ⟨⟨⟨rfl, rfl, hR.1, hR.2.1, (fun w hw a' U hW => by rw [List.mem_singleton.mp hw]; exact (hE.warm hW).w w4 rfl), List.mem_cons_self⟩, hE.w w4 rfl, hE.w w5 rfl, ⟨w6.2.1, w6.2.2.1⟩, (fun sig h => by have h2 := w6.2.2.2; rw [h] at h2; exact (Option.some.inj h2).symm), hE.w w1 rfl⟩, hE.w w2 rfl, hE.w w3 rfl⟩ ⟨kP.blind, va_recv hE.2.1 hPc hq he, hpre⟩ rfl hn hsz hst (lv_room hW) hdg ⟨hR.2.2.1, hR.2.2.2⟩) hS (fun q _ h => hFc q h) hFc (fun r u t H1 locs1 ht hvm hw hB hz1 hk1 hS1 => ?_)
  obtain ⟨hB1, hB2⟩ := hB
  rw [ht] at hB1
  obtain ⟨hP1, hD1⟩ := va_join hP hD isC isR hC hRr hn1 hdis hk1 hFc hB1 hB2
  exact kk r u H1 locs1 hw hP1 hD1 hS1
theorem k_callSi {S : Type} {post : Int32 → S → Prop} {w : S → va_W} {index n maxL : Nat} {y : MethodName} {bytes : ByteArray} {rm : Room} {As : List Value} {wc wr : va_W} {ret : Option FieldType} (L : kLS own index y bytes maxL ret n) (C : kC G p s m c cc nL own A) (hM : kM l y bytes maxL ret rm G As wc H.size (kQi G post w)) (hR : kLR rm R maxL cells slots) (hP : va_P G.1 vwCl ws H) (hD : va_D A ws) (hS : va_S A s.heap H locs) (isC isR : List Nat) (hC : isC.map (fun i => ws[i]?) = wc.map some) (hRr : isR.map (fun i => ws[i]?) = wr.map some) (hn0 : va_nd isC = true) (hn1 : va_nd isR = true) (hdis : ∀ i ∈ isR, i ∉ isC) (hn : As.length = n) (hsz : ls.size = nL) (hst : st0 = As.reverse ++ rest) (hW : (rest.map fun v => v.category).sum ≤ 8) (hdg : decode cc pc = .ok (.invokestatic index, 3))
    (kk : ∀ (r : Int32) (u : S) (H1 : Heap) (locs1 : List Loc), post r u → va_P G.1 vwCl (wr ++ w u) H1 → va_D A (wr ++ w u) → va_S A s.heap H1 locs1 → W p l e R s m args below meth c H1 locs1 (cells + rm.cells) (slots + rm.slots) Q (F0 m (pc + 3) ls (.int r :: rest))) : W p l e R s m args below meth c H locs cells slots Q (F0 m pc ls st0) := by
  obtain ⟨hPc, hFc, hpre⟩ := k_cut C hP hD hS isC hC hn0 As
  obtain ⟨hx, hb, hml, hown, hE, hXx, hA⟩ := C
  obtain ⟨w1, w2, w4, w5, w6⟩ := L
  refine va_calli (a := As.toArray) (va_runS (As := As) (rest := rest) (Ts := []) ⟨hx, hb, hml, hown, fun _ h => nomatch h⟩ hM ⟨⟨rfl, rfl, hR.1, hR.2.1, (fun w hw a' U hW => by rw [List.mem_singleton.mp hw]; exact (hE.warm hW).w w4 rfl), List.mem_cons_self, hE.w w4 rfl, hE.w w5 rfl, ⟨w6.1, w6.2.1⟩, (fun sig h => by have h2 := w6.2.2; rw [h] at h2; exact (Option.some.inj h2).symm), hE.w w1 rfl⟩, hE.w w2 rfl⟩ ⟨kP.blind, hpre⟩ rfl hn hsz hst (lv_room hW) hdg ⟨hR.2.2.1, hR.2.2.2⟩) hS (fun q _ h => hFc q h) hFc (fun r u t H1 locs1 ht hvm hw hB hz1 hk1 hS1 => ?_)
  obtain ⟨hB1, hB2⟩ := hB
  rw [ht] at hB1
  obtain ⟨hP1, hD1⟩ := va_join hP hD isC isR hC hRr hn1 hdis hk1 hFc hB1 hB2
  exact kk r u H1 locs1 hw hP1 hD1 hS1
theorem k_callSv {S : Type} {post : S → Prop} {w : S → va_W} {index n maxL : Nat} {y : MethodName} {bytes : ByteArray} {rm : Room} {As : List Value} {wc wr : va_W} {ret : Option FieldType} (L : kLS own index y bytes maxL ret n) (C : kC G p s m c cc nL own A) (hM : kM l y bytes maxL ret rm G As wc H.size (kQv G post w)) (hR : kLR rm R maxL cells slots) (hP : va_P G.1 vwCl ws H) (hD : va_D A ws) (hS : va_S A s.heap H locs) (isC isR : List Nat) (hC : isC.map (fun i => ws[i]?) = wc.map some) (hRr : isR.map (fun i => ws[i]?) = wr.map some) (hn0 : va_nd isC = true) (hn1 : va_nd isR = true) (hdis : ∀ i ∈ isR, i ∉ isC) (hn : As.length = n) (hsz : ls.size = nL) (hst : st0 = As.reverse ++ rest) (hW : (rest.map fun v => v.category).sum ≤ 8) (hdg : decode cc pc = .ok (.invokestatic index, 3))
    (kk : ∀ (u : S) (H1 : Heap) (locs1 : List Loc), post u → va_P G.1 vwCl (wr ++ w u) H1 → va_D A (wr ++ w u) → va_S A s.heap H1 locs1 → W p l e R s m args below meth c H1 locs1 (cells + rm.cells) (slots + rm.slots) Q (F0 m (pc + 3) ls rest)) : W p l e R s m args below meth c H locs cells slots Q (F0 m pc ls st0) := by
  obtain ⟨hPc, hFc, hpre⟩ := k_cut C hP hD hS isC hC hn0 As
  obtain ⟨hx, hb, hml, hown, hE, hXx, hA⟩ := C
  obtain ⟨w1, w2, w4, w5, w6⟩ := L
  refine va_callv (a := As.toArray) (va_runS (As := As) (rest := rest) (Ts := []) ⟨hx, hb, hml, hown, fun _ h => nomatch h⟩ hM ⟨⟨rfl, rfl, hR.1, hR.2.1, (fun w hw a' U hW => by rw [List.mem_singleton.mp hw]; exact (hE.warm hW).w w4 rfl), List.mem_cons_self, hE.w w4 rfl, hE.w w5 rfl, ⟨w6.1, w6.2.1⟩, (fun sig h => by have h2 := w6.2.2; rw [h] at h2; exact (Option.some.inj h2).symm), hE.w w1 rfl⟩, hE.w w2 rfl⟩ ⟨kP.blind, hpre⟩ rfl hn hsz hst (lv_room hW) hdg ⟨hR.2.2.1, hR.2.2.2⟩) hS (fun q _ h => hFc q h) hFc (fun u t H1 locs1 ht hvm hw hB hz1 hk1 hS1 => ?_)
  obtain ⟨hB1, hB2⟩ := hB
  rw [ht] at hB1
  obtain ⟨hP1, hD1⟩ := va_join hP hD isC isR hC hRr hn1 hdis hk1 hFc hB1 hB2
  exact kk u H1 locs1 hw hP1 hD1 hS1
theorem k_callSl {S : Type} {post : Int64 → S → Prop} {w : S → va_W} {index n maxL : Nat} {y : MethodName} {bytes : ByteArray} {rm : Room} {As : List Value} {wc wr : va_W} {ret : Option FieldType} (L : kLS own index y bytes maxL ret n) (C : kC G p s m c cc nL own A) (hM : kM l y bytes maxL ret rm G As wc H.size (kQl G post w)) (hR : kLR rm R maxL cells slots) (hP : va_P G.1 vwCl ws H) (hD : va_D A ws) (hS : va_S A s.heap H locs) (isC isR : List Nat) (hC : isC.map (fun i => ws[i]?) = wc.map some) (hRr : isR.map (fun i => ws[i]?) = wr.map some) (hn0 : va_nd isC = true) (hn1 : va_nd isR = true) (hdis : ∀ i ∈ isR, i ∉ isC) (hn : As.length = n) (hsz : ls.size = nL) (hst : st0 = As.reverse ++ rest) (hW : (rest.map fun v => v.category).sum ≤ 8) (hdg : decode cc pc = .ok (.invokestatic index, 3))
    (kk : ∀ (r : Int64) (u : S) (H1 : Heap) (locs1 : List Loc), post r u → va_P G.1 vwCl (wr ++ w u) H1 → va_D A (wr ++ w u) → va_S A s.heap H1 locs1 → W p l e R s m args below meth c H1 locs1 (cells + rm.cells) (slots + rm.slots) Q (F0 m (pc + 3) ls (.long r :: rest))) : W p l e R s m args below meth c H locs cells slots Q (F0 m pc ls st0) := by
  obtain ⟨hPc, hFc, hpre⟩ := k_cut C hP hD hS isC hC hn0 As
  obtain ⟨hx, hb, hml, hown, hE, hXx, hA⟩ := C
  obtain ⟨w1, w2, w4, w5, w6⟩ := L
  refine va_calll (a := As.toArray) (va_runS (As := As) (rest := rest) (Ts := []) ⟨hx, hb, hml, hown, fun _ h => nomatch h⟩ hM ⟨⟨rfl, rfl, hR.1, hR.2.1, (fun w hw a' U hW => by rw [List.mem_singleton.mp hw]; exact (hE.warm hW).w w4 rfl), List.mem_cons_self, hE.w w4 rfl, hE.w w5 rfl, ⟨w6.1, w6.2.1⟩, (fun sig h => by have h2 := w6.2.2; rw [h] at h2; exact (Option.some.inj h2).symm), hE.w w1 rfl⟩, hE.w w2 rfl⟩ ⟨kP.blind, hpre⟩ rfl hn hsz hst (lv_room hW) hdg ⟨hR.2.2.1, hR.2.2.2⟩) hS (fun q _ h => hFc q h) hFc (fun r u t H1 locs1 ht hvm hw hB hz1 hk1 hS1 => ?_)
  obtain ⟨hB1, hB2⟩ := hB
  rw [ht] at hB1
  obtain ⟨hP1, hD1⟩ := va_join hP hD isC isR hC hRr hn1 hdis hk1 hFc hB1 hB2
  exact kk r u H1 locs1 hw hP1 hD1 hS1
theorem k_callIv {S : Type} {post : S → Prop} {w : S → va_W} {index n maxL : Nat} {y : MethodName} {bytes : ByteArray} {rm : Room} {b : Nat} {As : List Value} {wc wr : va_W}  (L : kLI own index y bytes maxL n) (C : kC G p s m c cc nL own A) (hM : kM l y bytes maxL none rm G (.ref b :: As) wc H.size (kQv G post w)) (hR : kLR rm R maxL cells slots) (hP : va_P G.1 vwCl ws H) (hD : va_D A ws) (hS : va_S A s.heap H locs) (isC isR : List Nat) (hC : isC.map (fun i => ws[i]?) = wc.map some) (hRr : isR.map (fun i => ws[i]?) = wr.map some) (hn0 : va_nd isC = true) (hn1 : va_nd isR = true) (hdis : ∀ i ∈ isR, i ∉ isC) (hn : As.length = n) (hsz : ls.size = nL) (hst : st0 = As.reverse ++ .ref b :: rest) (hW : (rest.map fun v => v.category).sum ≤ 8) (hdg : decode cc pc = .ok (.invokespecial index, 3))
    (kk : ∀ (u : S) (H1 : Heap) (locs1 : List Loc), post u → va_P G.1 vwCl (wr ++ w u) H1 → va_D A (wr ++ w u) → va_S A s.heap H1 locs1 → W p l e R s m args below meth c H1 locs1 (cells + rm.cells) (slots + rm.slots) Q (F0 m (pc + 3) ls rest)) : W p l e R s m args below meth c H locs cells slots Q (F0 m pc ls st0) := by
  obtain ⟨hPc, hFc, hpre⟩ := k_cut C hP hD hS isC hC hn0 (.ref b :: As)
  obtain ⟨hx, hb, hml, hown, hE, hXx, hA⟩ := C
  obtain ⟨w1, w2, w4, w5, w7, w6⟩ := L
  refine va_callv (a := (.ref b :: As).toArray) (va_runI (As := As) (rest := rest) (Ts := []) ⟨hx, hb, hml, hown, fun _ h => nomatch h⟩ hM ⟨⟨rfl, rfl, hR.1, hR.2.1, (fun w hw a' U hW => by rw [List.mem_singleton.mp hw]; exact (hE.warm hW).w w4 rfl), List.mem_cons_self, hE.w w4 rfl, hE.w w5 rfl, ⟨w6.1, w6.2.1⟩, (fun sig h => by have h2 := w6.2.2; rw [h] at h2; exact (Option.some.inj h2).symm), hE.w w1 rfl⟩, w7, hE.w w2 rfl⟩ ⟨kP.blind, hpre⟩ rfl hn hsz hst (lv_room hW) hdg ⟨hR.2.2.1, hR.2.2.2⟩) hS (fun q _ h => hFc q h) hFc (fun u t H1 locs1 ht hvm hw hB hz1 hk1 hS1 => ?_)
  obtain ⟨hB1, hB2⟩ := hB
  rw [ht] at hB1
  obtain ⟨hP1, hD1⟩ := va_join hP hD isC isR hC hRr hn1 hdis hk1 hFc hB1 hB2
  exact kk u H1 locs1 hw hP1 hD1 hS1
theorem k_callJv {S : Type} {post : S → Prop} {w : S → va_W} {index n maxL : Nat} {y : MethodName} {bytes : ByteArray} {rm : Room} {b : Nat} {As : List Value} {wc wr : va_W} {host : String} (L : kLJ own index y host bytes maxL n) (C : kC G p s m c cc nL own A) (hM : kM l y bytes maxL none rm G (.ref b :: As) wc H.size (kQv G post w)) (hR : kLR rm R maxL cells slots) (hP : va_P G.1 vwCl ws H) (hD : va_D A ws) (hS : va_S A s.heap H locs) (isC isR : List Nat) (hC : isC.map (fun i => ws[i]?) = wc.map some) (hRr : isR.map (fun i => ws[i]?) = wr.map some) (hn0 : va_nd isC = true) (hn1 : va_nd isR = true) (hdis : ∀ i ∈ isR, i ∉ isC) (hn : As.length = n) (hsz : ls.size = nL) (hst : st0 = As.reverse ++ .ref b :: rest) (hW : (rest.map fun v => v.category).sum ≤ 8) (hdg : decode cc pc = .ok (.invokespecial index, 3))
    (kk : ∀ (u : S) (H1 : Heap) (locs1 : List Loc), post u → va_P G.1 vwCl (wr ++ w u) H1 → va_D A (wr ++ w u) → va_S A s.heap H1 locs1 → W p l e R s m args below meth c H1 locs1 (cells + rm.cells) (slots + rm.slots) Q (F0 m (pc + 3) ls rest)) : W p l e R s m args below meth c H locs cells slots Q (F0 m pc ls st0) := by
  obtain ⟨hPc, hFc, hpre⟩ := k_cut C hP hD hS isC hC hn0 (.ref b :: As)
  obtain ⟨hx, hb, hml, hown, hE, hXx, hA⟩ := C
  obtain ⟨w1, w2, w4, w5, w7, w6⟩ := L
  refine va_callv (a := (.ref b :: As).toArray) (va_runIN (As := As) (rest := rest) (Ts := []) ⟨hx, hb, hml, hown, fun _ h => nomatch h⟩ hM ⟨⟨⟨rfl, rfl, hR.1, hR.2.1, (fun w hw a' U hW => by rw [List.mem_singleton.mp hw]; exact (hE.warm hW).w w4 rfl), List.mem_cons_self⟩, hE.w w4 rfl, hE.w w5 rfl, ⟨w6.1, w6.2.1⟩, (fun sig h => by have h2 := w6.2.2; rw [h] at h2; exact (Option.some.inj h2).symm), hE.w w1 rfl⟩, w7, hE.w w2 rfl⟩ ⟨kP.blind, hpre⟩ rfl hn hsz hst (lv_room hW) hdg ⟨hR.2.2.1, hR.2.2.2⟩) hS (fun q _ h => hFc q h) hFc (fun u t H1 locs1 ht hvm hw hB hz1 hk1 hS1 => ?_)
  obtain ⟨hB1, hB2⟩ := hB
  rw [ht] at hB1
  obtain ⟨hP1, hD1⟩ := va_join hP hD isC isR hC hRr hn1 hdis hk1 hFc hB1 hB2
  exact kk u H1 locs1 hw hP1 hD1 hS1
theorem k_callHi {S : Type} {post : Int32 → S → Prop} {w : S → va_W} {index n maxL : Nat} {y : MethodName} {bytes : ByteArray} {rm : Room} {As : List Value} {wc wr : va_W} {ret : Option FieldType} {hh : List (Nat × Nat × Nat × Nat)} (L : kLH own index y bytes maxL ret hh n) (C : kC G p s m c cc nL own A) (hM : kMH l y bytes maxL ret hh rm G As wc H.size (kQi G post w)) (hR : kLR rm R maxL cells slots) (hP : va_P G.1 vwCl ws H) (hD : va_D A ws) (hS : va_S A s.heap H locs) (isC isR : List Nat) (hC : isC.map (fun i => ws[i]?) = wc.map some) (hRr : isR.map (fun i => ws[i]?) = wr.map some) (hn0 : va_nd isC = true) (hn1 : va_nd isR = true) (hdis : ∀ i ∈ isR, i ∉ isC) (hn : As.length = n) (hsz : ls.size = nL) (hst : st0 = As.reverse ++ rest) (hW : (rest.map fun v => v.category).sum ≤ 8) (hdg : decode cc pc = .ok (.invokestatic index, 3))
    (kk : ∀ (r : Int32) (u : S) (H1 : Heap) (locs1 : List Loc), post r u → va_P G.1 vwCl (wr ++ w u) H1 → va_D A (wr ++ w u) → va_S A s.heap H1 locs1 → W p l e R s m args below meth c H1 locs1 (cells + rm.cells) (slots + rm.slots) Q (F0 m (pc + 3) ls (.int r :: rest))) : W p l e R s m args below meth c H locs cells slots Q (F0 m pc ls st0) := by
  obtain ⟨hPc, hFc, hpre⟩ := k_cut C hP hD hS isC hC hn0 As
  obtain ⟨hx, hb, hml, hown, hE, hXx, hA⟩ := C
  obtain ⟨w1, w2, w4, w5, w6⟩ := L
  refine va_calli (a := As.toArray) (vx_runSW (As := As) (rest := rest) (Ts := []) ⟨hx, hb, hml, hown, fun _ h => nomatch h⟩ hM ⟨⟨rfl, rfl, hR.1, hR.2.1, (fun w hw a' U hW => by rw [List.mem_singleton.mp hw]; exact (hE.warm hW).w w4 rfl), List.mem_cons_self⟩, hE.w w4 rfl, hE.w w5 rfl, ⟨w6.1, w6.2.1⟩, (fun sig h => by have h2 := w6.2.2; rw [h] at h2; exact (Option.some.inj h2).symm), hE.w w1 rfl, hE.w w2 rfl⟩ ⟨kP.blind, hpre⟩ rfl hn hsz hst (lv_room hW) hdg ⟨hR.2.2.1, hR.2.2.2⟩) hS (fun q _ h => hFc q h) hFc (fun r u t H1 locs1 ht hvm hw hB hz1 hk1 hS1 => ?_)
  obtain ⟨hB1, hB2⟩ := hB
  rw [ht] at hB1
  obtain ⟨hP1, hD1⟩ := va_join hP hD isC isR hC hRr hn1 hdis hk1 hFc hB1 hB2
  exact kk r u H1 locs1 hw hP1 hD1 hS1
theorem k_xcallVi {SX : Type} {px : String → SX → Prop} {wx : SX → va_W} {S : Type} {post : Int32 → S → Prop} {w : S → va_W} {index n maxL : Nat} {y : MethodName} {bytes : ByteArray} {rm : Room} {b : Nat} {As : List Value} {wc wr : va_W} {Cn : String} {ret : Option FieldType} (L : kLV own index Cn y bytes maxL ret n) (C : kC G p s m c cc nL own A) (hM : kMX l y bytes maxL ret rm G (.ref b :: As) wc H.size (kQi G post w) (kXC G px wx)) (hR : kLR rm R maxL cells slots) (hP : va_P G.1 vwCl ws H) (hD : va_D A ws) (hS : va_S A s.heap H locs) (isC isR : List Nat) (hC : isC.map (fun i => ws[i]?) = wc.map some) (hRr : isR.map (fun i => ws[i]?) = wr.map some) (hn0 : va_nd isC = true) (hn1 : va_nd isR = true) (hdis : ∀ i ∈ isR, i ∉ isC) (q0 ci : Nat) {cq : u_T × Nat} (hq : vwCl[ci]? = some (Cn, cq)) {fs : List Value} (he : wc[q0]? = some (b, .inr (ci, fs))) (hn : As.length = n) (hsz : ls.size = nL) (hst : st0 = As.reverse ++ .ref b :: rest) (hW : (rest.map fun v => v.category).sum ≤ 8) (hdg : decode cc pc = .ok (.invokevirtual index, 3))
    (kx : ∀ (E : String) (ce : Cell) (q9 : Addr) (u : SX) (H1 : Heap) (locs1 : List Loc), px E u → va_P G.1 vwCl (wr ++ wx u) H1 → va_D A (wr ++ wx u) → va_S A s.heap H1 locs1 → H1[q9]? = some ce → ce.vm = .none → s.vm.findClass E = some ce.cls → vx_W p l e R s m args below meth c H1 locs1 (cells + rm.cells) (slots + rm.slots) Q (F0 m pc ls rest) q9)
    (kk : ∀ (r : Int32) (u : S) (H1 : Heap) (locs1 : List Loc), post r u → va_P G.1 vwCl (wr ++ w u) H1 → va_D A (wr ++ w u) → va_S A s.heap H1 locs1 → W p l e R s m args below meth c H1 locs1 (cells + rm.cells) (slots + rm.slots) Q (F0 m (pc + 3) ls (.int r :: rest))) : W p l e R s m args below meth c H locs cells slots Q (F0 m pc ls st0) := by
  obtain ⟨hPc, hFc, hpre⟩ := k_cut C hP hD hS isC hC hn0 (.ref b :: As)
  obtain ⟨hx, hb, hml, hown, hE, hXx, hA⟩ := C
  obtain ⟨w1, w2, w3, w4, w5, w6⟩ := L
  refine vx_calli (a := (.ref b :: As).toArray) (vx_runV (As := As) (rest := rest) (Ts := []) ⟨hx, hb, hml, hown, fun _ h => nomatch h⟩ hM ⟨⟨rfl, rfl, hR.1, hR.2.1, (fun w hw a' U hW => by rw [List.mem_singleton.mp hw]; exact (hE.warm hW).w w4 rfl), List.mem_cons_self, hE.w w4 rfl, hE.w w5 rfl, ⟨w6.2.1, w6.2.2.1⟩, (fun sig h => by have h2 := w6.2.2.2; rw [h] at h2; exact (Option.some.inj h2).symm), hE.w w1 rfl⟩, hE.w w2 rfl, hE.w w3 rfl⟩ ⟨kP.blind, va_recv hE.2.1 hPc hq he, hpre⟩ rfl hn hsz hst (lv_room hW) hdg ⟨hR.2.2.1, hR.2.2.2⟩) hS (fun q _ h => hFc q h) hFc (fun q _ h => hFc q h) (fun E ce q9 u t H1 locs1 ht hvm hw hB hz1 hk1 hS1 hc1 hc2 hc3 => ?_) (fun r u t H1 locs1 ht hvm hw hB hz1 hk1 hS1 => ?_)
  · obtain ⟨hpx, hB1, hB2⟩ := hB
    rw [ht] at hB1
    obtain ⟨hP1, hD1⟩ := va_join hP hD isC isR hC hRr hn1 hdis hk1 hFc hB1 hB2
    exact kx E ce q9 u H1 locs1 hpx hP1 hD1 hS1 hc1 hc2 hc3
  · obtain ⟨hB1, hB2⟩ := hB
    rw [ht] at hB1
    obtain ⟨hP1, hD1⟩ := va_join hP hD isC isR hC hRr hn1 hdis hk1 hFc hB1 hB2
    exact kk r u H1 locs1 hw hP1 hD1 hS1
theorem k_xcallVv {SX : Type} {px : String → SX → Prop} {wx : SX → va_W} {S : Type} {post : S → Prop} {w : S → va_W} {index n maxL : Nat} {y : MethodName} {bytes : ByteArray} {rm : Room} {b : Nat} {As : List Value} {wc wr : va_W} {Cn : String} {ret : Option FieldType} (L : kLV own index Cn y bytes maxL ret n) (C : kC G p s m c cc nL own A) (hM : kMX l y bytes maxL ret rm G (.ref b :: As) wc H.size (kQv G post w) (kXC G px wx)) (hR : kLR rm R maxL cells slots) (hP : va_P G.1 vwCl ws H) (hD : va_D A ws) (hS : va_S A s.heap H locs) (isC isR : List Nat) (hC : isC.map (fun i => ws[i]?) = wc.map some) (hRr : isR.map (fun i => ws[i]?) = wr.map some) (hn0 : va_nd isC = true) (hn1 : va_nd isR = true) (hdis : ∀ i ∈ isR, i ∉ isC) (q0 ci : Nat) {cq : u_T × Nat} (hq : vwCl[ci]? = some (Cn, cq)) {fs : List Value} (he : wc[q0]? = some (b, .inr (ci, fs))) (hn : As.length = n) (hsz : ls.size = nL) (hst : st0 = As.reverse ++ .ref b :: rest) (hW : (rest.map fun v => v.category).sum ≤ 8) (hdg : decode cc pc = .ok (.invokevirtual index, 3))
    (kx : ∀ (E : String) (ce : Cell) (q9 : Addr) (u : SX) (H1 : Heap) (locs1 : List Loc), px E u → va_P G.1 vwCl (wr ++ wx u) H1 → va_D A (wr ++ wx u) → va_S A s.heap H1 locs1 → H1[q9]? = some ce → ce.vm = .none → s.vm.findClass E = some ce.cls → vx_W p l e R s m args below meth c H1 locs1 (cells + rm.cells) (slots + rm.slots) Q (F0 m pc ls rest) q9)
    (kk : ∀ (u : S) (H1 : Heap) (locs1 : List Loc), post u → va_P G.1 vwCl (wr ++ w u) H1 → va_D A (wr ++ w u) → va_S A s.heap H1 locs1 → W p l e R s m args below meth c H1 locs1 (cells + rm.cells) (slots + rm.slots) Q (F0 m (pc + 3) ls rest)) : W p l e R s m args below meth c H locs cells slots Q (F0 m pc ls st0) := by
  obtain ⟨hPc, hFc, hpre⟩ := k_cut C hP hD hS isC hC hn0 (.ref b :: As)
  obtain ⟨hx, hb, hml, hown, hE, hXx, hA⟩ := C
  obtain ⟨w1, w2, w3, w4, w5, w6⟩ := L
  refine vx_callv (a := (.ref b :: As).toArray) (vx_runV (As := As) (rest := rest) (Ts := []) ⟨hx, hb, hml, hown, fun _ h => nomatch h⟩ hM ⟨⟨rfl, rfl, hR.1, hR.2.1, (fun w hw a' U hW => by rw [List.mem_singleton.mp hw]; exact (hE.warm hW).w w4 rfl), List.mem_cons_self, hE.w w4 rfl, hE.w w5 rfl, ⟨w6.2.1, w6.2.2.1⟩, (fun sig h => by have h2 := w6.2.2.2; rw [h] at h2; exact (Option.some.inj h2).symm), hE.w w1 rfl⟩, hE.w w2 rfl, hE.w w3 rfl⟩ ⟨kP.blind, va_recv hE.2.1 hPc hq he, hpre⟩ rfl hn hsz hst (lv_room hW) hdg ⟨hR.2.2.1, hR.2.2.2⟩) hS (fun q _ h => hFc q h) hFc (fun q _ h => hFc q h) (fun E ce q9 u t H1 locs1 ht hvm hw hB hz1 hk1 hS1 hc1 hc2 hc3 => ?_) (fun u t H1 locs1 ht hvm hw hB hz1 hk1 hS1 => ?_)
  · obtain ⟨hpx, hB1, hB2⟩ := hB
    rw [ht] at hB1
    obtain ⟨hP1, hD1⟩ := va_join hP hD isC isR hC hRr hn1 hdis hk1 hFc hB1 hB2
    exact kx E ce q9 u H1 locs1 hpx hP1 hD1 hS1 hc1 hc2 hc3
  · obtain ⟨hB1, hB2⟩ := hB
    rw [ht] at hB1
    obtain ⟨hP1, hD1⟩ := va_join hP hD isC isR hC hRr hn1 hdis hk1 hFc hB1 hB2
    exact kk u H1 locs1 hw hP1 hD1 hS1
theorem k_xcallVl {SX : Type} {px : String → SX → Prop} {wx : SX → va_W} {S : Type} {post : Int64 → S → Prop} {w : S → va_W} {index n maxL : Nat} {y : MethodName} {bytes : ByteArray} {rm : Room} {b : Nat} {As : List Value} {wc wr : va_W} {Cn : String} {ret : Option FieldType} (L : kLV own index Cn y bytes maxL ret n) (C : kC G p s m c cc nL own A) (hM : kMX l y bytes maxL ret rm G (.ref b :: As) wc H.size (kQl G post w) (kXC G px wx)) (hR : kLR rm R maxL cells slots) (hP : va_P G.1 vwCl ws H) (hD : va_D A ws) (hS : va_S A s.heap H locs) (isC isR : List Nat) (hC : isC.map (fun i => ws[i]?) = wc.map some) (hRr : isR.map (fun i => ws[i]?) = wr.map some) (hn0 : va_nd isC = true) (hn1 : va_nd isR = true) (hdis : ∀ i ∈ isR, i ∉ isC) (q0 ci : Nat) {cq : u_T × Nat} (hq : vwCl[ci]? = some (Cn, cq)) {fs : List Value} (he : wc[q0]? = some (b, .inr (ci, fs))) (hn : As.length = n) (hsz : ls.size = nL) (hst : st0 = As.reverse ++ .ref b :: rest) (hW : (rest.map fun v => v.category).sum ≤ 8) (hdg : decode cc pc = .ok (.invokevirtual index, 3))
    (kx : ∀ (E : String) (ce : Cell) (q9 : Addr) (u : SX) (H1 : Heap) (locs1 : List Loc), px E u → va_P G.1 vwCl (wr ++ wx u) H1 → va_D A (wr ++ wx u) → va_S A s.heap H1 locs1 → H1[q9]? = some ce → ce.vm = .none → s.vm.findClass E = some ce.cls → vx_W p l e R s m args below meth c H1 locs1 (cells + rm.cells) (slots + rm.slots) Q (F0 m pc ls rest) q9)
    (kk : ∀ (r : Int64) (u : S) (H1 : Heap) (locs1 : List Loc), post r u → va_P G.1 vwCl (wr ++ w u) H1 → va_D A (wr ++ w u) → va_S A s.heap H1 locs1 → W p l e R s m args below meth c H1 locs1 (cells + rm.cells) (slots + rm.slots) Q (F0 m (pc + 3) ls (.long r :: rest))) : W p l e R s m args below meth c H locs cells slots Q (F0 m pc ls st0) := by
  obtain ⟨hPc, hFc, hpre⟩ := k_cut C hP hD hS isC hC hn0 (.ref b :: As)
  obtain ⟨hx, hb, hml, hown, hE, hXx, hA⟩ := C
  obtain ⟨w1, w2, w3, w4, w5, w6⟩ := L
  refine vx_calll (a := (.ref b :: As).toArray) (vx_runV (As := As) (rest := rest) (Ts := []) ⟨hx, hb, hml, hown, fun _ h => nomatch h⟩ hM ⟨⟨rfl, rfl, hR.1, hR.2.1, (fun w hw a' U hW => by rw [List.mem_singleton.mp hw]; exact (hE.warm hW).w w4 rfl), List.mem_cons_self, hE.w w4 rfl, hE.w w5 rfl, ⟨w6.2.1, w6.2.2.1⟩, (fun sig h => by have h2 := w6.2.2.2; rw [h] at h2; exact (Option.some.inj h2).symm), hE.w w1 rfl⟩, hE.w w2 rfl, hE.w w3 rfl⟩ ⟨kP.blind, va_recv hE.2.1 hPc hq he, hpre⟩ rfl hn hsz hst (lv_room hW) hdg ⟨hR.2.2.1, hR.2.2.2⟩) hS (fun q _ h => hFc q h) hFc (fun q _ h => hFc q h) (fun E ce q9 u t H1 locs1 ht hvm hw hB hz1 hk1 hS1 hc1 hc2 hc3 => ?_) (fun r u t H1 locs1 ht hvm hw hB hz1 hk1 hS1 => ?_)
  · obtain ⟨hpx, hB1, hB2⟩ := hB
    rw [ht] at hB1
    obtain ⟨hP1, hD1⟩ := va_join hP hD isC isR hC hRr hn1 hdis hk1 hFc hB1 hB2
    exact kx E ce q9 u H1 locs1 hpx hP1 hD1 hS1 hc1 hc2 hc3
  · obtain ⟨hB1, hB2⟩ := hB
    rw [ht] at hB1
    obtain ⟨hP1, hD1⟩ := va_join hP hD isC isR hC hRr hn1 hdis hk1 hFc hB1 hB2
    exact kk r u H1 locs1 hw hP1 hD1 hS1
theorem k_xcallSi {SX : Type} {px : String → SX → Prop} {wx : SX → va_W} {S : Type} {post : Int32 → S → Prop} {w : S → va_W} {index n maxL : Nat} {y : MethodName} {bytes : ByteArray} {rm : Room} {As : List Value} {wc wr : va_W} {ret : Option FieldType} (L : kLS own index y bytes maxL ret n) (C : kC G p s m c cc nL own A) (hM : kMX l y bytes maxL ret rm G As wc H.size (kQi G post w) (kXC G px wx)) (hR : kLR rm R maxL cells slots) (hP : va_P G.1 vwCl ws H) (hD : va_D A ws) (hS : va_S A s.heap H locs) (isC isR : List Nat) (hC : isC.map (fun i => ws[i]?) = wc.map some) (hRr : isR.map (fun i => ws[i]?) = wr.map some) (hn0 : va_nd isC = true) (hn1 : va_nd isR = true) (hdis : ∀ i ∈ isR, i ∉ isC) (hn : As.length = n) (hsz : ls.size = nL) (hst : st0 = As.reverse ++ rest) (hW : (rest.map fun v => v.category).sum ≤ 8) (hdg : decode cc pc = .ok (.invokestatic index, 3))
    (kx : ∀ (E : String) (ce : Cell) (q9 : Addr) (u : SX) (H1 : Heap) (locs1 : List Loc), px E u → va_P G.1 vwCl (wr ++ wx u) H1 → va_D A (wr ++ wx u) → va_S A s.heap H1 locs1 → H1[q9]? = some ce → ce.vm = .none → s.vm.findClass E = some ce.cls → vx_W p l e R s m args below meth c H1 locs1 (cells + rm.cells) (slots + rm.slots) Q (F0 m pc ls rest) q9)
    (kk : ∀ (r : Int32) (u : S) (H1 : Heap) (locs1 : List Loc), post r u → va_P G.1 vwCl (wr ++ w u) H1 → va_D A (wr ++ w u) → va_S A s.heap H1 locs1 → W p l e R s m args below meth c H1 locs1 (cells + rm.cells) (slots + rm.slots) Q (F0 m (pc + 3) ls (.int r :: rest))) : W p l e R s m args below meth c H locs cells slots Q (F0 m pc ls st0) := by
  obtain ⟨hPc, hFc, hpre⟩ := k_cut C hP hD hS isC hC hn0 As
  obtain ⟨hx, hb, hml, hown, hE, hXx, hA⟩ := C
  obtain ⟨w1, w2, w4, w5, w6⟩ := L
  refine vx_calli (a := As.toArray) (vx_runS (As := As) (rest := rest) (Ts := []) ⟨hx, hb, hml, hown, fun _ h => nomatch h⟩ hM ⟨⟨rfl, rfl, hR.1, hR.2.1, (fun w hw a' U hW => by rw [List.mem_singleton.mp hw]; exact (hE.warm hW).w w4 rfl), List.mem_cons_self, hE.w w4 rfl, hE.w w5 rfl, ⟨w6.1, w6.2.1⟩, (fun sig h => by have h2 := w6.2.2; rw [h] at h2; exact (Option.some.inj h2).symm), hE.w w1 rfl⟩, hE.w w2 rfl⟩ ⟨kP.blind, hpre⟩ rfl hn hsz hst (lv_room hW) hdg ⟨hR.2.2.1, hR.2.2.2⟩) hS (fun q _ h => hFc q h) hFc (fun q _ h => hFc q h) (fun E ce q9 u t H1 locs1 ht hvm hw hB hz1 hk1 hS1 hc1 hc2 hc3 => ?_) (fun r u t H1 locs1 ht hvm hw hB hz1 hk1 hS1 => ?_)
  · obtain ⟨hpx, hB1, hB2⟩ := hB
    rw [ht] at hB1
    obtain ⟨hP1, hD1⟩ := va_join hP hD isC isR hC hRr hn1 hdis hk1 hFc hB1 hB2
    exact kx E ce q9 u H1 locs1 hpx hP1 hD1 hS1 hc1 hc2 hc3
  · obtain ⟨hB1, hB2⟩ := hB
    rw [ht] at hB1
    obtain ⟨hP1, hD1⟩ := va_join hP hD isC isR hC hRr hn1 hdis hk1 hFc hB1 hB2
    exact kk r u H1 locs1 hw hP1 hD1 hS1
theorem k_xcallSv {SX : Type} {px : String → SX → Prop} {wx : SX → va_W} {S : Type} {post : S → Prop} {w : S → va_W} {index n maxL : Nat} {y : MethodName} {bytes : ByteArray} {rm : Room} {As : List Value} {wc wr : va_W} {ret : Option FieldType} (L : kLS own index y bytes maxL ret n) (C : kC G p s m c cc nL own A) (hM : kMX l y bytes maxL ret rm G As wc H.size (kQv G post w) (kXC G px wx)) (hR : kLR rm R maxL cells slots) (hP : va_P G.1 vwCl ws H) (hD : va_D A ws) (hS : va_S A s.heap H locs) (isC isR : List Nat) (hC : isC.map (fun i => ws[i]?) = wc.map some) (hRr : isR.map (fun i => ws[i]?) = wr.map some) (hn0 : va_nd isC = true) (hn1 : va_nd isR = true) (hdis : ∀ i ∈ isR, i ∉ isC) (hn : As.length = n) (hsz : ls.size = nL) (hst : st0 = As.reverse ++ rest) (hW : (rest.map fun v => v.category).sum ≤ 8) (hdg : decode cc pc = .ok (.invokestatic index, 3))
    (kx : ∀ (E : String) (ce : Cell) (q9 : Addr) (u : SX) (H1 : Heap) (locs1 : List Loc), px E u → va_P G.1 vwCl (wr ++ wx u) H1 → va_D A (wr ++ wx u) → va_S A s.heap H1 locs1 → H1[q9]? = some ce → ce.vm = .none → s.vm.findClass E = some ce.cls → vx_W p l e R s m args below meth c H1 locs1 (cells + rm.cells) (slots + rm.slots) Q (F0 m pc ls rest) q9)
    (kk : ∀ (u : S) (H1 : Heap) (locs1 : List Loc), post u → va_P G.1 vwCl (wr ++ w u) H1 → va_D A (wr ++ w u) → va_S A s.heap H1 locs1 → W p l e R s m args below meth c H1 locs1 (cells + rm.cells) (slots + rm.slots) Q (F0 m (pc + 3) ls rest)) : W p l e R s m args below meth c H locs cells slots Q (F0 m pc ls st0) := by
  obtain ⟨hPc, hFc, hpre⟩ := k_cut C hP hD hS isC hC hn0 As
  obtain ⟨hx, hb, hml, hown, hE, hXx, hA⟩ := C
  obtain ⟨w1, w2, w4, w5, w6⟩ := L
  refine vx_callv (a := As.toArray) (vx_runS (As := As) (rest := rest) (Ts := []) ⟨hx, hb, hml, hown, fun _ h => nomatch h⟩ hM ⟨⟨rfl, rfl, hR.1, hR.2.1, (fun w hw a' U hW => by rw [List.mem_singleton.mp hw]; exact (hE.warm hW).w w4 rfl), List.mem_cons_self, hE.w w4 rfl, hE.w w5 rfl, ⟨w6.1, w6.2.1⟩, (fun sig h => by have h2 := w6.2.2; rw [h] at h2; exact (Option.some.inj h2).symm), hE.w w1 rfl⟩, hE.w w2 rfl⟩ ⟨kP.blind, hpre⟩ rfl hn hsz hst (lv_room hW) hdg ⟨hR.2.2.1, hR.2.2.2⟩) hS (fun q _ h => hFc q h) hFc (fun q _ h => hFc q h) (fun E ce q9 u t H1 locs1 ht hvm hw hB hz1 hk1 hS1 hc1 hc2 hc3 => ?_) (fun u t H1 locs1 ht hvm hw hB hz1 hk1 hS1 => ?_)
  · obtain ⟨hpx, hB1, hB2⟩ := hB
    rw [ht] at hB1
    obtain ⟨hP1, hD1⟩ := va_join hP hD isC isR hC hRr hn1 hdis hk1 hFc hB1 hB2
    exact kx E ce q9 u H1 locs1 hpx hP1 hD1 hS1 hc1 hc2 hc3
  · obtain ⟨hB1, hB2⟩ := hB
    rw [ht] at hB1
    obtain ⟨hP1, hD1⟩ := va_join hP hD isC isR hC hRr hn1 hdis hk1 hFc hB1 hB2
    exact kk u H1 locs1 hw hP1 hD1 hS1
theorem k_xcallSl {SX : Type} {px : String → SX → Prop} {wx : SX → va_W} {S : Type} {post : Int64 → S → Prop} {w : S → va_W} {index n maxL : Nat} {y : MethodName} {bytes : ByteArray} {rm : Room} {As : List Value} {wc wr : va_W} {ret : Option FieldType} (L : kLS own index y bytes maxL ret n) (C : kC G p s m c cc nL own A) (hM : kMX l y bytes maxL ret rm G As wc H.size (kQl G post w) (kXC G px wx)) (hR : kLR rm R maxL cells slots) (hP : va_P G.1 vwCl ws H) (hD : va_D A ws) (hS : va_S A s.heap H locs) (isC isR : List Nat) (hC : isC.map (fun i => ws[i]?) = wc.map some) (hRr : isR.map (fun i => ws[i]?) = wr.map some) (hn0 : va_nd isC = true) (hn1 : va_nd isR = true) (hdis : ∀ i ∈ isR, i ∉ isC) (hn : As.length = n) (hsz : ls.size = nL) (hst : st0 = As.reverse ++ rest) (hW : (rest.map fun v => v.category).sum ≤ 8) (hdg : decode cc pc = .ok (.invokestatic index, 3))
    (kx : ∀ (E : String) (ce : Cell) (q9 : Addr) (u : SX) (H1 : Heap) (locs1 : List Loc), px E u → va_P G.1 vwCl (wr ++ wx u) H1 → va_D A (wr ++ wx u) → va_S A s.heap H1 locs1 → H1[q9]? = some ce → ce.vm = .none → s.vm.findClass E = some ce.cls → vx_W p l e R s m args below meth c H1 locs1 (cells + rm.cells) (slots + rm.slots) Q (F0 m pc ls rest) q9)
    (kk : ∀ (r : Int64) (u : S) (H1 : Heap) (locs1 : List Loc), post r u → va_P G.1 vwCl (wr ++ w u) H1 → va_D A (wr ++ w u) → va_S A s.heap H1 locs1 → W p l e R s m args below meth c H1 locs1 (cells + rm.cells) (slots + rm.slots) Q (F0 m (pc + 3) ls (.long r :: rest))) : W p l e R s m args below meth c H locs cells slots Q (F0 m pc ls st0) := by
  obtain ⟨hPc, hFc, hpre⟩ := k_cut C hP hD hS isC hC hn0 As
  obtain ⟨hx, hb, hml, hown, hE, hXx, hA⟩ := C
  obtain ⟨w1, w2, w4, w5, w6⟩ := L
  refine vx_calll (a := As.toArray) (vx_runS (As := As) (rest := rest) (Ts := []) ⟨hx, hb, hml, hown, fun _ h => nomatch h⟩ hM ⟨⟨rfl, rfl, hR.1, hR.2.1, (fun w hw a' U hW => by rw [List.mem_singleton.mp hw]; exact (hE.warm hW).w w4 rfl), List.mem_cons_self, hE.w w4 rfl, hE.w w5 rfl, ⟨w6.1, w6.2.1⟩, (fun sig h => by have h2 := w6.2.2; rw [h] at h2; exact (Option.some.inj h2).symm), hE.w w1 rfl⟩, hE.w w2 rfl⟩ ⟨kP.blind, hpre⟩ rfl hn hsz hst (lv_room hW) hdg ⟨hR.2.2.1, hR.2.2.2⟩) hS (fun q _ h => hFc q h) hFc (fun q _ h => hFc q h) (fun E ce q9 u t H1 locs1 ht hvm hw hB hz1 hk1 hS1 hc1 hc2 hc3 => ?_) (fun r u t H1 locs1 ht hvm hw hB hz1 hk1 hS1 => ?_)
  · obtain ⟨hpx, hB1, hB2⟩ := hB
    rw [ht] at hB1
    obtain ⟨hP1, hD1⟩ := va_join hP hD isC isR hC hRr hn1 hdis hk1 hFc hB1 hB2
    exact kx E ce q9 u H1 locs1 hpx hP1 hD1 hS1 hc1 hc2 hc3
  · obtain ⟨hB1, hB2⟩ := hB
    rw [ht] at hB1
    obtain ⟨hP1, hD1⟩ := va_join hP hD isC isR hC hRr hn1 hdis hk1 hFc hB1 hB2
    exact kk r u H1 locs1 hw hP1 hD1 hS1
theorem k_iret {S : Type} {post : Int32 → S → Prop} {w : S → va_W} {mc ms : Nat} {r : Int32} (C : kC G p s m c cc nL own A) (hr : meth.sig.returnType = some .int) (hlk : meth.locks = false) (hP : va_P G.1 vwCl ws H) (hD : va_D A ws) (hS : va_S A s.heap H locs) (u : S) (hpost : post r u) (isO : List Nat) (hO : isO.map (fun i => ws[i]?) = (w u).map some) (hnO : va_nd isO = true) (hc : cells ≤ mc) (hs : slots ≤ ms) (hdg : decode cc pc = .ok (.ireturn, 1)) :
    W p l e R s m args below meth c H locs cells slots (MQ below (kQi G post w A) args s mc ms A) (F0 m pc ls [.int r]) := by
  refine W.widen hc hs ?_
  exact W.iret (v := r) C.1 C.2.1 hr (fun t ht hW => ⟨⟨r, u, rfl, hpost, by rw [ht]; exact hP.sub isO (k_fm hO), hD.sub isO hnO hO⟩, hS.F ht⟩) hS.2.2 hdg (hlocks := hlk)
theorem k_zret {S : Type} {post : Int32 → S → Prop} {w : S → va_W} {mc ms : Nat} {r : Int32} (C : kC G p s m c cc nL own A) (hr : meth.sig.returnType = some .boolean) (hlk : meth.locks = false) (hnz : narrow .boolean (.int r) = .int r) (hP : va_P G.1 vwCl ws H) (hD : va_D A ws) (hS : va_S A s.heap H locs) (u : S) (hpost : post r u) (isO : List Nat) (hO : isO.map (fun i => ws[i]?) = (w u).map some) (hnO : va_nd isO = true) (hc : cells ≤ mc) (hs : slots ≤ ms) (hdg : decode cc pc = .ok (.ireturn, 1)) :
    W p l e R s m args below meth c H locs cells slots (MQ below (kQi G post w A) args s mc ms A) (F0 m pc ls [.int r]) := by
  refine W.widen hc hs ?_
  exact W.zret (v := r) C.1 C.2.1 hr hnz (fun t ht hW => ⟨⟨r, u, rfl, hpost, by rw [ht]; exact hP.sub isO (k_fm hO), hD.sub isO hnO hO⟩, hS.F ht⟩) hS.2.2 hdg (hlocks := hlk)
theorem k_lret {S : Type} {post : Int64 → S → Prop} {w : S → va_W} {mc ms : Nat} {r : Int64} (C : kC G p s m c cc nL own A) (hr : meth.sig.returnType = some .long) (hlk : meth.locks = false) (hP : va_P G.1 vwCl ws H) (hD : va_D A ws) (hS : va_S A s.heap H locs) (u : S) (hpost : post r u) (isO : List Nat) (hO : isO.map (fun i => ws[i]?) = (w u).map some) (hnO : va_nd isO = true) (hc : cells ≤ mc) (hs : slots ≤ ms) (hdg : decode cc pc = .ok (.lreturn, 1)) :
    W p l e R s m args below meth c H locs cells slots (MQ below (kQl G post w A) args s mc ms A) (F0 m pc ls [.long r]) := by
  refine W.widen hc hs ?_
  exact W.lret (v := r) C.1 C.2.1 hr (fun t ht hW => ⟨⟨r, u, rfl, hpost, by rw [ht]; exact hP.sub isO (k_fm hO), hD.sub isO hnO hO⟩, hS.F ht⟩) hS.2.2 hdg (hlocks := hlk)
theorem k_vret {S : Type} {post : S → Prop} {w : S → va_W} {mc ms : Nat} (C : kC G p s m c cc nL own A) (hr : meth.sig.returnType = none) (hlk : meth.locks = false) (hP : va_P G.1 vwCl ws H) (hD : va_D A ws) (hS : va_S A s.heap H locs) (u : S) (hpost : post u) (isO : List Nat) (hO : isO.map (fun i => ws[i]?) = (w u).map some) (hnO : va_nd isO = true) (hc : cells ≤ mc) (hs : slots ≤ ms) (hdg : decode cc pc = .ok (.return_, 1)) :
    W p l e R s m args below meth c H locs cells slots (MQ below (kQv G post w A) args s mc ms A) (F0 m pc ls []) := by
  refine W.widen hc hs ?_
  exact W.vret C.1 C.2.1 hr (fun t ht hW => ⟨⟨u, rfl, hpost, by rw [ht]; exact hP.sub isO (k_fm hO), hD.sub isO hnO hO⟩, hS.F ht⟩) hS.2.2 hdg (hlocks := hlk)
/-- an exception that leaves this method -/
theorem k_xout {Qc : Array Value → State → Outcome → State → Prop} {S : Type} {px : String → S → Prop} {w : S → va_W} {mc ms : Nat} {E : String} {ce : Cell} {q9 : Addr} (hno : ∀ x ∈ c.exceptionTable.toList, False) (hlk : meth.locks = false) (hP : va_P G.1 vwCl ws H) (hD : va_D A ws) (hS : va_S A s.heap H locs) (hc1 : H[q9]? = some ce) (hc2 : ce.vm = .none) (hc3 : s.vm.findClass E = some ce.cls) (u : S) (hpx : px E u) (isO : List Nat) (hO : isO.map (fun i => ws[i]?) = (w u).map some) (hnO : va_nd isO = true) (hc : cells ≤ mc) (hs : slots ≤ ms) :
    vx_W p l e R s m args below meth c H locs cells slots (vx_MQ below Qc (kXC G px w A) args s mc ms A) (F0 m pc ls rest) q9 :=
  vx_out (fun x hx => (hno x hx).elim) hlk hc1 hc2 hc3 (fun t ht hvm => ⟨u, trivial, ⟨hpx, by rw [ht]; exact hP.sub isO (k_fm hO), hD.sub isO hnO hO⟩, hS.F ht⟩) hS.2.2 hc hs
/-- throw new E() -/
theorem k_throw {Qc : Array Value → State → Outcome → State → Prop} {S : Type} {px : String → S → Prop} {w : S → va_W} {mc ms ik ic : Nat} {cls : String} {names : List String} (hl : l.stackTraces = false) (hfit : Bundle.fit cls = true ∧ ∀ n ∈ names, Bundle.fit n = true) (hm : ∀ w ∈ Cond.classLink own ik cls :: Cond.initialized cls :: vx_at0 own ic cls names, w ∈ lw_tbl ∧ kOk w = true ∧ vx_ot w = true)
    (hno : ∀ x ∈ c.exceptionTable.toList, False) (hlk : meth.locks = false) (C : kC G p s m c cc nL own A) (hsz : ls.size = nL) (hP : va_P G.1 vwCl ws H) (hD : va_D A ws) (hS : va_S A s.heap H locs)
    (d0 : decode cc pc = .ok (.new ik, 3)) (d3 : decode cc (pc + 3) = .ok (.dup, 1)) (d4 : decode cc (pc + 4) = .ok (.invokespecial ic, 3)) (d7 : decode cc (pc + 7) = .ok (.athrow, 1))
    (hf : names.length + 3 < R.frames) (hl2 : (rest.map fun v => v.category).sum + (13 * (names.length + 1) + 42) ≤ R.locals) (hR : cells + 1 ≤ R.cells ∧ slots + 6 ≤ R.slots) (u : S) (hpx : px cls u) (isO : List Nat) (hO : isO.map (fun i => ws[i]?) = (w u).map some) (hnO : va_nd isO = true) (hc : cells + 1 ≤ mc) (hs : slots + 6 ≤ ms) :
    W p l e R s m args below meth c H locs cells slots (vx_MQ below Qc (kXC G px w A) args s mc ms A) (F0 m pc ls rest) := by
  obtain ⟨hx, hb, hml, hown, hE, hXx, hA⟩ := C
  have ok : ∀ w ∈ Cond.classLink own ik cls :: Cond.initialized cls :: vx_at0 own ic cls names, w.before args s = true := fun w h => hE.w (hm w h).1 (hm w h).2.1
  refine vx_throw0 hx hb hl hown hfit.1 hfit.2 (ok _ List.mem_cons_self) (ok _ (List.mem_cons_of_mem _ List.mem_cons_self)) (fun w h => ok w (List.mem_cons_of_mem _ (List.mem_cons_of_mem _ h))) (fun w h => (hm w h).2.2) hXx.1 hXx.2.1 hS (hsz.trans hml.symm) d0 d3 d4 d7 (fun x hx => (hno x hx).elim) hf hl2 hR.1 hR.2 hlk ?_ hS.2.2 hc hs
  intro t hvm hz hq
  have hk : ∀ (k : Nat) (x : Nat × va_E), ws[k]? = some x → t.heap[x.1]? = H[x.1]? := fun k x hx => hq x.1 ((hP k x hx).lt)
  exact ⟨u, trivial, ⟨hpx, (hP.kept hk).sub isO (k_fm hO), hD.sub isO hnO hO⟩, Nat.le_trans hS.1 hz, fun q h1 h2 => (hq q (Nat.lt_of_lt_of_le h1 hS.1)).trans (hS.2.1 q h1 h2)⟩
theorem k_eqi {x y : Int32} (h : x = y) (k : W p l e R s m args below meth c H locs cells slots Q (F0 m pc ls (.int y :: rest))) : W p l e R s m args below meth c H locs cells slots Q (F0 m pc ls (.int x :: rest)) := by rw [h]; exact k
theorem k_eql {x y : Int64} (h : x = y) (k : W p l e R s m args below meth c H locs cells slots Q (F0 m pc ls (.long y :: rest))) : W p l e R s m args below meth c H locs cells slots Q (F0 m pc ls (.long x :: rest)) := by rw [h]; exact k
theorem k_eqv {v v' : Value} (h : v = v') (k : W p l e R s m args below meth c H locs cells slots Q (F0 m pc ls (v' :: rest))) : W p l e R s m args below meth c H locs cells slots Q (F0 m pc ls (v :: rest)) := by rw [h]; exact k
theorem k_in {i : Int32} {n : Nat} (h : (decide (i < 0) || Nat.ble n i.toNatClampNeg) = false) : vp_in i n := by
  unfold vp_in
  rw [Bool.or_eq_false_iff, decide_eq_false_iff_not] at h
  rintro (h1 | h1)
  · exact h.1 h1
  · have := Nat.ble_eq.mpr h1
    rw [h.2] at this
    cases this
theorem kR {rm R : Room} {maxL cells slots : Nat} (h : ((rm.frames + 1).ble R.frames && ((8 + (maxL + 11) + rm.locals).ble R.locals && ((cells + rm.cells).ble R.cells && (slots + rm.slots).ble R.slots))) = true) : kLR rm R maxL cells slots := by
  simp only [Bool.and_eq_true, Nat.ble_eq] at h
  exact ⟨h.1, h.2.1, h.2.2.1, h.2.2.2⟩
/-- Math.min and Math.max -/
def kLM (own : String) (index : Nat) (y : MethodName) (cd : ByteArray) : Prop := Cond.methodLink own index y ∈ lw_tbl ∧ Cond.static y ∈ lw_tbl ∧ Cond.initialized "java/lang/Math" ∈ lw_tbl ∧ Cond.code y cd 2 (some .int) ∈ lw_tbl
theorem k_min {index : Nat} {x y : Int32} (L : kLM own index Lib.Math.min.name Lib.Math.min.code) (C : kC G p s m c cc nL own A) (hsz : ls.size = nL) (hf : 1 ≤ R.frames) (hl : (rest.map fun v => v.category).sum + 13 ≤ R.locals) (hc : cells ≤ R.cells) (hs : slots ≤ R.slots) (hdg : decode cc pc = .ok (.invokestatic index, 3)) (kk : W p l e R s m args below meth c H locs cells slots Q (F0 m (pc + 3) ls (.int (if y < x then y else x) :: rest))) : W p l e R s m args below meth c H locs cells slots Q (F0 m pc ls (.int y :: .int x :: rest)) :=
  va_mmin C.1 C.2.1 (C.2.2.1.trans hsz.symm) C.2.2.2.1 (C.2.2.2.2.1.w L.1 rfl) (C.2.2.2.2.1.w L.2.1 rfl) (C.2.2.2.2.1.w L.2.2.1 rfl) (C.2.2.2.2.1.w L.2.2.2 rfl) hf hl hc hs hdg kk
theorem k_max {index : Nat} {x y : Int32} (L : kLM own index Lib.Math.max.name Lib.Math.max.code) (C : kC G p s m c cc nL own A) (hsz : ls.size = nL) (hf : 1 ≤ R.frames) (hl : (rest.map fun v => v.category).sum + 13 ≤ R.locals) (hc : cells ≤ R.cells) (hs : slots ≤ R.slots) (hdg : decode cc pc = .ok (.invokestatic index, 3)) (kk : W p l e R s m args below meth c H locs cells slots Q (F0 m (pc + 3) ls (.int (if x < y then y else x) :: rest))) : W p l e R s m args below meth c H locs cells slots Q (F0 m pc ls (.int y :: .int x :: rest)) :=
  va_mmax C.1 C.2.1 (C.2.2.1.trans hsz.symm) C.2.2.2.1 (C.2.2.2.2.1.w L.1 rfl) (C.2.2.2.2.1.w L.2.1 rfl) (C.2.2.2.2.1.w L.2.2.1 rfl) (C.2.2.2.2.1.w L.2.2.2 rfl) hf hl hc hs hdg kk
/-- System.arraycopy of ints -/
def kLC (own : String) (index : Nat) : Prop := Cond.methodLink own index arraycopyName ∈ lw_tbl ∧ Cond.native arraycopyName ∈ lw_tbl ∧ Cond.static arraycopyName ∈ lw_tbl ∧ Cond.initialized "java/lang/System" ∈ lw_tbl
theorem k_copy {index a0 a n0 n1 : Nat} {f g : Nat → Int32} {sp dp n : Int32} (L : kLC own index) (C : kC G p s m c cc nL own A) (hsz : ls.size = nL) (hP : va_P G.1 vwCl ws H) (hD : va_D A ws) (hS : va_S A s.heap H locs) (q0 q1 : Nat) (ha0 : ws[q0]? = some (a0, .inl (G.2.1, n0, .inl f))) (ha1 : ws[q1]? = some (a, .inl (G.2.1, n1, .inl g))) (h1 : ¬ sp < 0) (h2 : ¬ dp < 0) (h3 : ¬ n < 0) (h4 : sp.toNatClampNeg + n.toNatClampNeg ≤ n0) (h5 : dp.toNatClampNeg + n.toNatClampNeg ≤ n1) (hf : 1 ≤ R.frames) (hl : (rest.map fun v => v.category).sum + (nativeFrameWords "java/lang/System" "arraycopy" 5 + 11) ≤ R.locals) (hdg : decode cc pc = .ok (.invokestatic index, 3))
    (kk : ∀ (H1 : Heap) (locs1 : List Loc), va_P G.1 vwCl (ws.set q1 (a, .inl (G.2.1, n1, .inl (va_cpy f g sp.toNatClampNeg dp.toNatClampNeg n.toNatClampNeg)))) H1 → va_D A (ws.set q1 (a, .inl (G.2.1, n1, .inl (va_cpy f g sp.toNatClampNeg dp.toNatClampNeg n.toNatClampNeg)))) → va_S A s.heap H1 locs1 → W p l e R s m args below meth c H1 locs1 cells slots Q (F0 m (pc + 3) ls rest)) : W p l e R s m args below meth c H locs cells slots Q (F0 m pc ls (.int n :: .int dp :: .ref a :: .int sp :: .ref a0 :: rest)) :=
  va_copyi C.1 C.2.1 (C.2.2.1.trans hsz.symm) C.2.2.2.1 (C.2.2.2.2.1.w L.1 rfl) (C.2.2.2.2.1.w L.2.1 rfl) (C.2.2.2.2.1.w L.2.2.1 rfl) (C.2.2.2.2.1.w L.2.2.2 rfl) C.2.2.2.2.1.2.1 hP hD hS q0 q1 0 0 ha0 ha1 rfl rfl rfl h1 h2 h3 h4 h5 (fun _ _ => rfl) hf hl hdg kk
/-- a store of a Lesson into the array -/
theorem k_aast {a n v : Nat} {f : Nat → Option Nat} {fs : List Value} {i : Int32} (C : kC G p s m c cc nL own A) (hP : va_P G.1 vwCl ws H) (hD : va_D A ws) (hS : va_S A s.heap H locs) (q0 qk : Nat) (ha : ws[q0]? = some (a, .inl (G.2.2.2.1, n, .inr (.inr (.inr (.inr f)))))) (hv : ws[qk]? = some (v, .inr (5, fs))) (hin : vp_in i n) (hdg : decode cc pc = .ok (.aastore, 1))
    (kk : ∀ (H1 : Heap) (locs1 : List Loc), va_P G.1 vwCl (ws.set q0 (a, .inl (G.2.2.2.1, n, .inr (.inr (.inr (.inr (va_up f i.toNatClampNeg (some v)))))))) H1 → va_D A (ws.set q0 (a, .inl (G.2.2.2.1, n, .inr (.inr (.inr (.inr (va_up f i.toNatClampNeg (some v)))))))) → va_S A s.heap H1 locs1 → W p l e R s m args below meth c H1 locs1 cells slots Q (F0 m (pc + 1) ls rest)) : W p l e R s m args below meth c H locs cells slots Q (F0 m pc ls (.ref v :: .int i :: .ref a :: rest)) :=
  va_astq C.1 C.2.1 C.2.2.2.2.1.2.1 hP hD hS q0 2 qk 5 ha rfl hv rfl hin hdg kk
/-- caught by the first row, by the second -/
theorem k_catch1 {E name : String} {ce : Cell} {q9 : Addr} {hh : List (Nat × Nat × Nat × Nat)} {a b h ct : Nat} (C : kC G p s m c cc nL own A) (ht : c.exceptionTable.toList = tableOf ((a, b, h, ct) :: hh)) (hcv : covers ⟨a, b, h, ct⟩ pc = true) (h0 : ct ≠ 0) (hm : Cond.classLink own ct name ∈ lw_tbl) (hcast : Cond.castable E name ∈ lw_tbl) (hc1 : H[q9]? = some ce) (hc2 : ce.vm = .none) (hc3 : s.vm.findClass E = some ce.cls) (kk : W p l e R s m args below meth c H locs cells slots Q (F0 m h ls [.ref q9])) : vx_W p l e R s m args below meth c H locs cells slots Q (F0 m pc ls rest) q9 :=
  vx_catch C.2.2.2.1 [] ⟨a, b, h, ct⟩ (tableOf hh) ht (fun z hz => nomatch hz) hcv h0 (C.2.2.2.2.1.w hm rfl) (C.2.2.2.2.1.w hcast rfl) hc1 hc2 hc3 kk
theorem k_catch2 {ce : Cell} {q9 : Addr} {hh : List (Nat × Nat × Nat × Nat)} {a1 b1 h1 ct1 a b h ct : Nat} (C : kC G p s m c cc nL own A) (ht : c.exceptionTable.toList = tableOf ((a1, b1, h1, ct1) :: (a, b, h, ct) :: hh)) (h01 : ct1 ≠ 0) (hm1 : Cond.classLink own ct1 "java/util/NoSuchElementException" ∈ lw_tbl) (hcv : covers ⟨a, b, h, ct⟩ pc = true) (h0 : ct ≠ 0) (hm : Cond.classLink own ct "java/lang/IllegalArgumentException" ∈ lw_tbl) (hcast : Cond.castable "java/lang/IllegalArgumentException" "java/lang/IllegalArgumentException" ∈ lw_tbl) (hc1 : H[q9]? = some ce) (hc2 : ce.vm = .none) (hc3 : s.vm.findClass "java/lang/IllegalArgumentException" = some ce.cls) (kk : W p l e R s m args below meth c H locs cells slots Q (F0 m h ls [.ref q9])) : vx_W p l e R s m args below meth c H locs cells slots Q (F0 m pc ls rest) q9 :=
  vx_catch C.2.2.2.1 [⟨a1, b1, h1, ct1⟩] ⟨a, b, h, ct⟩ (tableOf hh) ht (fun z hz => by rw [List.mem_singleton.mp hz]; exact Or.inr ⟨h01, _, C.2.2.2.2.1.w hm1 rfl, C.2.2.2.2.1.2.2.2.1⟩) hcv h0 (C.2.2.2.2.1.w hm rfl) (C.2.2.2.2.1.w hcast rfl) hc1 hc2 hc3 kk
end KR
theorem tk_1 {w : Cond} (h : w ∈ tables_1_1) : w ∈ lw_tbl := List.mem_append_right _ (show w ∈ tables_1 from List.mem_append_left _ h)
theorem tk_2 {w : Cond} (h : w ∈ tables_1_2) : w ∈ lw_tbl := List.mem_append_right _ (show w ∈ tables_1 from List.mem_append_right _ (List.mem_append_left _ h))
theorem tk_3 {w : Cond} (h : w ∈ tables_1_3) : w ∈ lw_tbl := List.mem_append_right _ (show w ∈ tables_1 from List.mem_append_right _ (List.mem_append_right _ (List.mem_append_left _ h)))
theorem tk_4 {w : Cond} (h : w ∈ tables_1_4) : w ∈ lw_tbl := List.mem_append_right _ (show w ∈ tables_1 from List.mem_append_right _ (List.mem_append_right _ (List.mem_append_right _ (List.mem_append_left _ h))))
theorem tk_5 {w : Cond} (h : w ∈ tables_1_5) : w ∈ lw_tbl := List.mem_append_right _ (show w ∈ tables_1 from List.mem_append_right _ (List.mem_append_right _ (List.mem_append_right _ (List.mem_append_right _ (List.mem_append_left _ h)))))
theorem tk_6 {w : Cond} (h : w ∈ tables_1_6) : w ∈ lw_tbl := List.mem_append_right _ (show w ∈ tables_1 from List.mem_append_right _ (List.mem_append_right _ (List.mem_append_right _ (List.mem_append_right _ (List.mem_append_right _ (List.mem_append_left _ h))))))
theorem tk_7 {w : Cond} (h : w ∈ tables_1_7) : w ∈ lw_tbl := List.mem_append_right _ (show w ∈ tables_1 from List.mem_append_right _ (List.mem_append_right _ (List.mem_append_right _ (List.mem_append_right _ (List.mem_append_right _ (List.mem_append_right _ (List.mem_append_left _ h)))))))
theorem tk_8 {w : Cond} (h : w ∈ tables_1_8) : w ∈ lw_tbl := List.mem_append_right _ (show w ∈ tables_1 from List.mem_append_right _ (List.mem_append_right _ (List.mem_append_right _ (List.mem_append_right _ (List.mem_append_right _ (List.mem_append_right _ (List.mem_append_right _ (List.mem_append_left _ h))))))))
theorem tk_9 {w : Cond} (h : w ∈ tables_1_9) : w ∈ lw_tbl := List.mem_append_right _ (show w ∈ tables_1 from List.mem_append_right _ (List.mem_append_right _ (List.mem_append_right _ (List.mem_append_right _ (List.mem_append_right _ (List.mem_append_right _ (List.mem_append_right _ (List.mem_append_right _ (h)))))))))
def zF0 : Nat → Value := fun k => match k with | 0 => .null | 1 => .null | 2 => .int 0 | 3 => .int 0 | 4 => .int 0 | 5 => .long 0 | 6 => .long 0 | _ => .null
theorem zV0 : ∀ j, j < 7 → defaultValue (tyX0 j) = zF0 j := fun j hj => match j, hj with | 0, _ => rfl | 1, _ => rfl | 2, _ => rfl | 3, _ => rfl | 4, _ => rfl | 5, _ => rfl | 6, _ => rfl | j + 7, hj => absurd hj (by omega)
def zF1 : Nat → Value := fun k => match k with | 0 => .null | 1 => .null | 2 => .null | 3 => .null | 4 => .null | 5 => .null | 6 => .null | 7 => .null | 8 => .int 0 | 9 => .int 0 | _ => .null
theorem zV1 : ∀ j, j < 10 → defaultValue (tyX1 j) = zF1 j := fun j hj => match j, hj with | 0, _ => rfl | 1, _ => rfl | 2, _ => rfl | 3, _ => rfl | 4, _ => rfl | 5, _ => rfl | 6, _ => rfl | 7, _ => rfl | 8, _ => rfl | 9, _ => rfl | j + 10, hj => absurd hj (by omega)
def zF2 : Nat → Value := fun k => match k with | 0 => .null | 1 => .null | 2 => .null | 3 => .null | 4 => .int 0 | 5 => .int 0 | 6 => .int 0 | 7 => .int 0 | 8 => .int 0 | _ => .null
theorem zV2 : ∀ j, j < 9 → defaultValue (tyX2 j) = zF2 j := fun j hj => match j, hj with | 0, _ => rfl | 1, _ => rfl | 2, _ => rfl | 3, _ => rfl | 4, _ => rfl | 5, _ => rfl | 6, _ => rfl | 7, _ => rfl | 8, _ => rfl | j + 9, hj => absurd hj (by omega)
def zF3 : Nat → Value := fun k => match k with | 0 => .null | 1 => .null | 2 => .null | 3 => .null | 4 => .null | 5 => .null | 6 => .null | 7 => .null | 8 => .null | 9 => .int 0 | 10 => .int 0 | 11 => .int 0 | _ => .null
theorem zV3 : ∀ j, j < 12 → defaultValue (tyX3 j) = zF3 j := fun j hj => match j, hj with | 0, _ => rfl | 1, _ => rfl | 2, _ => rfl | 3, _ => rfl | 4, _ => rfl | 5, _ => rfl | 6, _ => rfl | 7, _ => rfl | 8, _ => rfl | 9, _ => rfl | 10, _ => rfl | 11, _ => rfl | j + 12, hj => absurd hj (by omega)
def zF4 : Nat → Value := fun k => match k with | 0 => .int 0 | 1 => .int 0 | 2 => .int 0 | _ => .null
theorem zV4 : ∀ j, j < 3 → defaultValue (tyX4 j) = zF4 j := fun j hj => match j, hj with | 0, _ => rfl | 1, _ => rfl | 2, _ => rfl | j + 3, hj => absurd hj (by omega)
def zF5 : Nat → Value := fun k => match k with | 0 => .null | 1 => .int 0 | 2 => .int 0 | 3 => .int 0 | 4 => .int 0 | 5 => .int 0 | 6 => .int 0 | 7 => .int 0 | 8 => .int 0 | 9 => .int 0 | 10 => .int 0 | 11 => .int 0 | 12 => .int 0 | 13 => .int 0 | _ => .null
theorem zV5 : ∀ j, j < 14 → defaultValue (tyX5 j) = zF5 j := fun j hj => match j, hj with | 0, _ => rfl | 1, _ => rfl | 2, _ => rfl | 3, _ => rfl | 4, _ => rfl | 5, _ => rfl | 6, _ => rfl | 7, _ => rfl | 8, _ => rfl | 9, _ => rfl | 10, _ => rfl | 11, _ => rfl | 12, _ => rfl | 13, _ => rfl | j + 14, hj => absurd hj (by omega)
def zF6 : Nat → Value := fun k => match k with | 0 => .null | 1 => .null | 2 => .int 0 | 3 => .int 0 | 4 => .int 0 | 5 => .int 0 | 6 => .int 0 | 7 => .int 0 | 8 => .int 0 | 9 => .int 0 | 10 => .int 0 | _ => .null
theorem zV6 : ∀ j, j < 11 → defaultValue (tyX6 j) = zF6 j := fun j hj => match j, hj with | 0, _ => rfl | 1, _ => rfl | 2, _ => rfl | 3, _ => rfl | 4, _ => rfl | 5, _ => rfl | 6, _ => rfl | 7, _ => rfl | 8, _ => rfl | 9, _ => rfl | 10, _ => rfl | j + 11, hj => absurd hj (by omega)
def zF7 : Nat → Value := fun k => match k with | 0 => .null | 1 => .null | 2 => .int 0 | 3 => .int 0 | 4 => .int 0 | _ => .null
theorem zV7 : ∀ j, j < 5 → defaultValue (tyX7 j) = zF7 j := fun j hj => match j, hj with | 0, _ => rfl | 1, _ => rfl | 2, _ => rfl | 3, _ => rfl | 4, _ => rfl | j + 5, hj => absurd hj (by omega)
def zF8 : Nat → Value := fun k => match k with | 0 => .null | 1 => .null | 2 => .null | 3 => .int 0 | 4 => .int 0 | _ => .null
theorem zV8 : ∀ j, j < 5 → defaultValue (tyX8 j) = zF8 j := fun j hj => match j, hj with | 0, _ => rfl | 1, _ => rfl | 2, _ => rfl | 3, _ => rfl | 4, _ => rfl | j + 5, hj => absurd hj (by omega)
def zF9 : Nat → Value := fun k => match k with | 0 => .null | 1 => .null | 2 => .null | 3 => .null | 4 => .null | 5 => .int 0 | _ => .null
theorem zV9 : ∀ j, j < 6 → defaultValue (tyX9 j) = zF9 j := fun j hj => match j, hj with | 0, _ => rfl | 1, _ => rfl | 2, _ => rfl | 3, _ => rfl | 4, _ => rfl | 5, _ => rfl | j + 6, hj => absurd hj (by omega)
def zF10 : Nat → Value := fun k => match k with | 0 => .null | 1 => .null | 2 => .null | 3 => .null | 4 => .int 0 | 5 => .int 0 | 6 => .int 0 | _ => .null
theorem zV10 : ∀ j, j < 7 → defaultValue (tyX10 j) = zF10 j := fun j hj => match j, hj with | 0, _ => rfl | 1, _ => rfl | 2, _ => rfl | 3, _ => rfl | 4, _ => rfl | 5, _ => rfl | 6, _ => rfl | j + 7, hj => absurd hj (by omega)
def zF11 : Nat → Value := fun k => match k with | 0 => .null | 1 => .null | 2 => .null | 3 => .null | 4 => .null | 5 => .null | 6 => .null | 7 => .null | 8 => .null | 9 => .null | 10 => .null | 11 => .null | 12 => .null | 13 => .int 0 | 14 => .int 0 | 15 => .int 0 | 16 => .int 0 | _ => .null
theorem zV11 : ∀ j, j < 17 → defaultValue (tyX11 j) = zF11 j := fun j hj => match j, hj with | 0, _ => rfl | 1, _ => rfl | 2, _ => rfl | 3, _ => rfl | 4, _ => rfl | 5, _ => rfl | 6, _ => rfl | 7, _ => rfl | 8, _ => rfl | 9, _ => rfl | 10, _ => rfl | 11, _ => rfl | 12, _ => rfl | 13, _ => rfl | 14, _ => rfl | 15, _ => rfl | 16, _ => rfl | j + 17, hj => absurd hj (by omega)
def zF12 : Nat → Value := fun k => match k with | 0 => .int 0 | 1 => .int 0 | 2 => .int 0 | 3 => .int 0 | 4 => .int 0 | 5 => .null | 6 => .null | 7 => .null | 8 => .null | 9 => .null | 10 => .null | 11 => .null | 12 => .null | 13 => .null | 14 => .null | 15 => .null | 16 => .null | 17 => .null | 18 => .int 0 | 19 => .int 0 | 20 => .int 0 | 21 => .null | 22 => .int 0 | 23 => .int 0 | 24 => .int 0 | 25 => .int 0 | 26 => .int 0 | 27 => .int 0 | 28 => .int 0 | 29 => .long 0 | 30 => .int 0 | 31 => .int 0 | 32 => .int 0 | 33 => .int 0 | 34 => .int 0 | 35 => .int 0 | 36 => .int 0 | 37 => .int 0 | 38 => .null | 39 => .null | 40 => .null | 41 => .null | 42 => .null | 43 => .null | 44 => .null | 45 => .null | 46 => .null | 47 => .null | 48 => .null | 49 => .null | 50 => .null | 51 => .null | 52 => .int 0 | 53 => .null | 54 => .null | 55 => .null | 56 => .null | 57 => .null | 58 => .null | 59 => .null | 60 => .int 0 | 61 => .int 0 | 62 => .int 0 | 63 => .null | 64 => .null | 65 => .int 0 | 66 => .null | 67 => .null | 68 => .null | 69 => .null | 70 => .int 0 | 71 => .int 0 | 72 => .null | 73 => .int 0 | 74 => .null | 75 => .null | 76 => .null | 77 => .null | 78 => .null | 79 => .int 0 | 80 => .int 0 | 81 => .int 0 | 82 => .int 0 | 83 => .int 0 | 84 => .int 0 | 85 => .null | 86 => .null | 87 => .null | _ => .null
theorem zV12 : ∀ j, j < 88 → defaultValue (tyX12 j) = zF12 j := fun j hj => match j, hj with | 0, _ => rfl | 1, _ => rfl | 2, _ => rfl | 3, _ => rfl | 4, _ => rfl | 5, _ => rfl | 6, _ => rfl | 7, _ => rfl | 8, _ => rfl | 9, _ => rfl | 10, _ => rfl | 11, _ => rfl | 12, _ => rfl | 13, _ => rfl | 14, _ => rfl | 15, _ => rfl | 16, _ => rfl | 17, _ => rfl | 18, _ => rfl | 19, _ => rfl | 20, _ => rfl | 21, _ => rfl | 22, _ => rfl | 23, _ => rfl | 24, _ => rfl | 25, _ => rfl | 26, _ => rfl | 27, _ => rfl | 28, _ => rfl | 29, _ => rfl | 30, _ => rfl | 31, _ => rfl | 32, _ => rfl | 33, _ => rfl | 34, _ => rfl | 35, _ => rfl | 36, _ => rfl | 37, _ => rfl | 38, _ => rfl | 39, _ => rfl | 40, _ => rfl | 41, _ => rfl | 42, _ => rfl | 43, _ => rfl | 44, _ => rfl | 45, _ => rfl | 46, _ => rfl | 47, _ => rfl | 48, _ => rfl | 49, _ => rfl | 50, _ => rfl | 51, _ => rfl | 52, _ => rfl | 53, _ => rfl | 54, _ => rfl | 55, _ => rfl | 56, _ => rfl | 57, _ => rfl | 58, _ => rfl | 59, _ => rfl | 60, _ => rfl | 61, _ => rfl | 62, _ => rfl | 63, _ => rfl | 64, _ => rfl | 65, _ => rfl | 66, _ => rfl | 67, _ => rfl | 68, _ => rfl | 69, _ => rfl | 70, _ => rfl | 71, _ => rfl | 72, _ => rfl | 73, _ => rfl | 74, _ => rfl | 75, _ => rfl | 76, _ => rfl | 77, _ => rfl | 78, _ => rfl | 79, _ => rfl | 80, _ => rfl | 81, _ => rfl | 82, _ => rfl | 83, _ => rfl | 84, _ => rfl | 85, _ => rfl | 86, _ => rfl | 87, _ => rfl | j + 88, hj => absurd hj (by omega)
