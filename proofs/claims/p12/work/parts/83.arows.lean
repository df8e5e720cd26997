/-! ===== worlds of two pieces ===== -/
theorem app_l (X R : va_W) : (List.range X.length).map (fun i => (X ++ R)[i]?) = X.map some := by
  apply List.ext_getElem?
  intro i
  by_cases h : i < X.length
  · simp [h, List.getElem?_append_left h]
  · simp [h, List.getElem?_eq_none (Nat.le_of_not_lt h)]
theorem app_r (X R : va_W) : ((List.range R.length).map (fun i => X.length + i)).map (fun i => (X ++ R)[i]?) = R.map some := by
  apply List.ext_getElem?
  intro i
  by_cases h : i < R.length
  · simp [h, List.getElem?_append_right]
  · simp [h, List.getElem?_eq_none (Nat.le_of_not_lt h)]
theorem app_nd (n k : Nat) : va_nd ((List.range k).map (fun i => n + i)) = true := by
  apply z_nd
  rw [List.nodup_iff_pairwise_ne, List.pairwise_map]
  exact List.Pairwise.imp (fun h => by omega) (List.nodup_iff_pairwise_ne.mp List.nodup_range)
theorem app_dis (n k : Nat) : ∀ i ∈ (List.range k).map (fun i => n + i), i ∉ List.range n := by
  intro i hi hn
  obtain ⟨j, -, rfl⟩ := List.mem_map.mp hi
  have := List.mem_range.mp hn
  omega
theorem swp_at {X R : va_W} {i : Nat} {q : Nat × va_E} (h : (X ++ R)[i]? = some q) : (R ++ X)[if i < X.length then R.length + i else i - X.length]? = some q := by
  have hl : i < (X ++ R).length := (List.getElem?_eq_some_iff.mp h).1
  rw [List.length_append] at hl
  split
  · rename_i c
    rw [List.getElem?_append_right (by omega)]
    rw [List.getElem?_append_left c] at h
    rw [show R.length + i - R.length = i by omega]; exact h
  · rename_i c
    rw [List.getElem?_append_right (by omega)] at h
    rw [List.getElem?_append_left (by omega)]; exact h
theorem swp_P {D : va_G} {cl : List vw_C} {X R : va_W} {H : Heap} (h : va_P D cl (R ++ X) H) : va_P D cl (X ++ R) H := fun _ q hk => h _ q (swp_at hk)
theorem swp_D {A : Nat → Prop} {X R : va_W} (h : va_D A (R ++ X)) : va_D A (X ++ R) := by
  refine ⟨fun i j p q hi hj e => ?_, fun k q hk => h.2 _ q (swp_at hk)⟩
  have h1 := h.1 _ _ p q (swp_at hi) (swp_at hj) e
  have li : i < (X ++ R).length := (List.getElem?_eq_some_iff.mp hi).1
  have lj : j < (X ++ R).length := (List.getElem?_eq_some_iff.mp hj).1
  rw [List.length_append] at li lj
  split at h1 <;> split at h1 <;> omega
section AR
variable {p : Program} {l : Launch} {e : Env} {R : Room} {s : State} {m : MethodId} {args : Array Value} {below : List Frame} {meth : Method} {c : Code} {H : Heap} {locs : List Loc} {cells slots : Nat} {Q : State → Prop} {cc : ByteArray} {nL pc : Nat} {ls : Array Slot} {rest st0 : List Value} {G : kG} {own : String} {A : Nat → Prop}
theorem a_callVi {S : Type} {post : Int32 → S → Prop} {w : S → va_W} {index n maxL : Nat} {y : MethodName} {bytes : ByteArray} {rm : Room} {b : Nat} {As : List Value} {wc wr : va_W} {Cn : String} {ret : Option FieldType} (L : kLV own index Cn y bytes maxL ret n) (C : kC G p s m c cc nL own A) (hM : kM l y bytes maxL ret rm G (.ref b :: As) wc H.size (kQi G post w)) (hR : kLR rm R maxL cells slots) (hP : va_P G.1 vwCl (wc ++ wr) H) (hD : va_D A (wc ++ wr)) (hS : va_S A s.heap H locs) (q0 ci : Nat) {cq : u_T × Nat} (hq : vwCl[ci]? = some (Cn, cq)) {fs : List Value} (he : wc[q0]? = some (b, .inr (ci, fs))) (hn : As.length = n) (hsz : ls.size = nL) (hst : st0 = As.reverse ++ .ref b :: rest) (hW : (rest.map fun v => v.category).sum ≤ 8) (hdg : decode cc pc = .ok (.invokevirtual index, 3))
    (kk : ∀ (r : Int32) (u : S) (H1 : Heap) (locs1 : List Loc), post r u → va_P G.1 vwCl (w u ++ wr) H1 → va_D A (w u ++ wr) → va_S A s.heap H1 locs1 → W p l e R s m args below meth c H1 locs1 (cells + rm.cells) (slots + rm.slots) Q (F0 m (pc + 3) ls (.int r :: rest))) : W p l e R s m args below meth c H locs cells slots Q (F0 m pc ls st0) :=
  k_callVi (ws := wc ++ wr) (wc := wc) (wr := wr) L C hM hR hP hD hS (List.range wc.length) ((List.range wr.length).map (fun i => wc.length + i)) (app_l wc wr) (app_r wc wr) (z_ndr _) (app_nd _ _) (app_dis _ _) q0 ci hq he hn hsz hst hW hdg (fun r u H1 locs1 h1 h2 h3 h4 => kk r u H1 locs1 h1 (swp_P h2) (swp_D h3) h4)
theorem a_callVv {S : Type} {post : S → Prop} {w : S → va_W} {index n maxL : Nat} {y : MethodName} {bytes : ByteArray} {rm : Room} {b : Nat} {As : List Value} {wc wr : va_W} {Cn : String} {ret : Option FieldType} (L : kLV own index Cn y bytes maxL ret n) (C : kC G p s m c cc nL own A) (hM : kM l y bytes maxL ret rm G (.ref b :: As) wc H.size (kQv G post w)) (hR : kLR rm R maxL cells slots) (hP : va_P G.1 vwCl (wc ++ wr) H) (hD : va_D A (wc ++ wr)) (hS : va_S A s.heap H locs) (q0 ci : Nat) {cq : u_T × Nat} (hq : vwCl[ci]? = some (Cn, cq)) {fs : List Value} (he : wc[q0]? = some (b, .inr (ci, fs))) (hn : As.length = n) (hsz : ls.size = nL) (hst : st0 = As.reverse ++ .ref b :: rest) (hW : (rest.map fun v => v.category).sum ≤ 8) (hdg : decode cc pc = .ok (.invokevirtual index, 3))
    (kk : ∀ (u : S) (H1 : Heap) (locs1 : List Loc), post u → va_P G.1 vwCl (w u ++ wr) H1 → va_D A (w u ++ wr) → va_S A s.heap H1 locs1 → W p l e R s m args below meth c H1 locs1 (cells + rm.cells) (slots + rm.slots) Q (F0 m (pc + 3) ls rest)) : W p l e R s m args below meth c H locs cells slots Q (F0 m pc ls st0) :=
  k_callVv (ws := wc ++ wr) (wc := wc) (wr := wr) L C hM hR hP hD hS (List.range wc.length) ((List.range wr.length).map (fun i => wc.length + i)) (app_l wc wr) (app_r wc wr) (z_ndr _) (app_nd _ _) (app_dis _ _) q0 ci hq he hn hsz hst hW hdg (fun u H1 locs1 h1 h2 h3 h4 => kk u H1 locs1 h1 (swp_P h2) (swp_D h3) h4)
theorem a_callVl {S : Type} {post : Int64 → S → Prop} {w : S → va_W} {index n maxL : Nat} {y : MethodName} {bytes : ByteArray} {rm : Room} {b : Nat} {As : List Value} {wc wr : va_W} {Cn : String} {ret : Option FieldType} (L : kLV own index Cn y bytes maxL ret n) (C : kC G p s m c cc nL own A) (hM : kM l y bytes maxL ret rm G (.ref b :: As) wc H.size (kQl G post w)) (hR : kLR rm R maxL cells slots) (hP : va_P G.1 vwCl (wc ++ wr) H) (hD : va_D A (wc ++ wr)) (hS : va_S A s.heap H locs) (q0 ci : Nat) {cq : u_T × Nat} (hq : vwCl[ci]? = some (Cn, cq)) {fs : List Value} (he : wc[q0]? = some (b, .inr (ci, fs))) (hn : As.length = n) (hsz : ls.size = nL) (hst : st0 = As.reverse ++ .ref b :: rest) (hW : (rest.map fun v => v.category).sum ≤ 8) (hdg : decode cc pc = .ok (.invokevirtual index, 3))
    (kk : ∀ (r : Int64) (u : S) (H1 : Heap) (locs1 : List Loc), post r u → va_P G.1 vwCl (w u ++ wr) H1 → va_D A (w u ++ wr) → va_S A s.heap H1 locs1 → W p l e R s m args below meth c H1 locs1 (cells + rm.cells) (slots + rm.slots) Q (F0 m (pc + 3) ls (.long r :: rest))) : W p l e R s m args below meth c H locs cells slots Q (F0 m pc ls st0) :=
  k_callVl (ws := wc ++ wr) (wc := wc) (wr := wr) L C hM hR hP hD hS (List.range wc.length) ((List.range wr.length).map (fun i => wc.length + i)) (app_l wc wr) (app_r wc wr) (z_ndr _) (app_nd _ _) (app_dis _ _) q0 ci hq he hn hsz hst hW hdg (fun r u H1 locs1 h1 h2 h3 h4 => kk r u H1 locs1 h1 (swp_P h2) (swp_D h3) h4)
theorem a_callHi {S : Type} {post : Int32 → S → Prop} {w : S → va_W} {index n maxL : Nat} {y : MethodName} {bytes : ByteArray} {rm : Room} {As : List Value} {wc wr : va_W} {ret : Option FieldType} {hh : List (Nat × Nat × Nat × Nat)} (L : kLH own index y bytes maxL ret hh n) (C : kC G p s m c cc nL own A) (hM : kMH l y bytes maxL ret hh rm G As wc H.size (kQi G post w)) (hR : kLR rm R maxL cells slots) (hP : va_P G.1 vwCl (wc ++ wr) H) (hD : va_D A (wc ++ wr)) (hS : va_S A s.heap H locs) (hn : As.length = n) (hsz : ls.size = nL) (hst : st0 = As.reverse ++ rest) (hW : (rest.map fun v => v.category).sum ≤ 8) (hdg : decode cc pc = .ok (.invokestatic index, 3))
    (kk : ∀ (r : Int32) (u : S) (H1 : Heap) (locs1 : List Loc), post r u → va_P G.1 vwCl (w u ++ wr) H1 → va_D A (w u ++ wr) → va_S A s.heap H1 locs1 → W p l e R s m args below meth c H1 locs1 (cells + rm.cells) (slots + rm.slots) Q (F0 m (pc + 3) ls (.int r :: rest))) : W p l e R s m args below meth c H locs cells slots Q (F0 m pc ls st0) :=
  k_callHi (ws := wc ++ wr) (wc := wc) (wr := wr) L C hM hR hP hD hS (List.range wc.length) ((List.range wr.length).map (fun i => wc.length + i)) (app_l wc wr) (app_r wc wr) (z_ndr _) (app_nd _ _) (app_dis _ _) hn hsz hst hW hdg (fun r u H1 locs1 h1 h2 h3 h4 => kk r u H1 locs1 h1 (swp_P h2) (swp_D h3) h4)
theorem a_xcallVi {SX : Type} {px : String → SX → Prop} {wx : SX → va_W} {S : Type} {post : Int32 → S → Prop} {w : S → va_W} {index n maxL : Nat} {y : MethodName} {bytes : ByteArray} {rm : Room} {b : Nat} {As : List Value} {wc wr : va_W} {Cn : String} {ret : Option FieldType} (L : kLV own index Cn y bytes maxL ret n) (C : kC G p s m c cc nL own A) (hM : kMX l y bytes maxL ret rm G (.ref b :: As) wc H.size (kQi G post w) (kXC G px wx)) (hR : kLR rm R maxL cells slots) (hP : va_P G.1 vwCl (wc ++ wr) H) (hD : va_D A (wc ++ wr)) (hS : va_S A s.heap H locs) (q0 ci : Nat) {cq : u_T × Nat} (hq : vwCl[ci]? = some (Cn, cq)) {fs : List Value} (he : wc[q0]? = some (b, .inr (ci, fs))) (hn : As.length = n) (hsz : ls.size = nL) (hst : st0 = As.reverse ++ .ref b :: rest) (hW : (rest.map fun v => v.category).sum ≤ 8) (hdg : decode cc pc = .ok (.invokevirtual index, 3))
    (kx : ∀ (E : String) (ce : Cell) (q9 : Addr) (u : SX) (H1 : Heap) (locs1 : List Loc), px E u → va_P G.1 vwCl (wx u ++ wr) H1 → va_D A (wx u ++ wr) → va_S A s.heap H1 locs1 → H1[q9]? = some ce → ce.vm = .none → s.vm.findClass E = some ce.cls → vx_W p l e R s m args below meth c H1 locs1 (cells + rm.cells) (slots + rm.slots) Q (F0 m pc ls rest) q9)
    (kk : ∀ (r : Int32) (u : S) (H1 : Heap) (locs1 : List Loc), post r u → va_P G.1 vwCl (w u ++ wr) H1 → va_D A (w u ++ wr) → va_S A s.heap H1 locs1 → W p l e R s m args below meth c H1 locs1 (cells + rm.cells) (slots + rm.slots) Q (F0 m (pc + 3) ls (.int r :: rest))) : W p l e R s m args below meth c H locs cells slots Q (F0 m pc ls st0) :=
  k_xcallVi (ws := wc ++ wr) (wc := wc) (wr := wr) L C hM hR hP hD hS (List.range wc.length) ((List.range wr.length).map (fun i => wc.length + i)) (app_l wc wr) (app_r wc wr) (z_ndr _) (app_nd _ _) (app_dis _ _) q0 ci hq he hn hsz hst hW hdg (fun E ce q9 u H1 locs1 h1 h2 h3 h4 h5 h6 h7 => kx E ce q9 u H1 locs1 h1 (swp_P h2) (swp_D h3) h4 h5 h6 h7) (fun r u H1 locs1 h1 h2 h3 h4 => kk r u H1 locs1 h1 (swp_P h2) (swp_D h3) h4)
theorem a_xcallVl {SX : Type} {px : String → SX → Prop} {wx : SX → va_W} {S : Type} {post : Int64 → S → Prop} {w : S → va_W} {index n maxL : Nat} {y : MethodName} {bytes : ByteArray} {rm : Room} {b : Nat} {As : List Value} {wc wr : va_W} {Cn : String} {ret : Option FieldType} (L : kLV own index Cn y bytes maxL ret n) (C : kC G p s m c cc nL own A) (hM : kMX l y bytes maxL ret rm G (.ref b :: As) wc H.size (kQl G post w) (kXC G px wx)) (hR : kLR rm R maxL cells slots) (hP : va_P G.1 vwCl (wc ++ wr) H) (hD : va_D A (wc ++ wr)) (hS : va_S A s.heap H locs) (q0 ci : Nat) {cq : u_T × Nat} (hq : vwCl[ci]? = some (Cn, cq)) {fs : List Value} (he : wc[q0]? = some (b, .inr (ci, fs))) (hn : As.length = n) (hsz : ls.size = nL) (hst : st0 = As.reverse ++ .ref b :: rest) (hW : (rest.map fun v => v.category).sum ≤ 8) (hdg : decode cc pc = .ok (.invokevirtual index, 3))
    (kx : ∀ (E : String) (ce : Cell) (q9 : Addr) (u : SX) (H1 : Heap) (locs1 : List Loc), px E u → va_P G.1 vwCl (wx u ++ wr) H1 → va_D A (wx u ++ wr) → va_S A s.heap H1 locs1 → H1[q9]? = some ce → ce.vm = .none → s.vm.findClass E = some ce.cls → vx_W p l e R s m args below meth c H1 locs1 (cells + rm.cells) (slots + rm.slots) Q (F0 m pc ls rest) q9)
    (kk : ∀ (r : Int64) (u : S) (H1 : Heap) (locs1 : List Loc), post r u → va_P G.1 vwCl (w u ++ wr) H1 → va_D A (w u ++ wr) → va_S A s.heap H1 locs1 → W p l e R s m args below meth c H1 locs1 (cells + rm.cells) (slots + rm.slots) Q (F0 m (pc + 3) ls (.long r :: rest))) : W p l e R s m args below meth c H locs cells slots Q (F0 m pc ls st0) :=
  k_xcallVl (ws := wc ++ wr) (wc := wc) (wr := wr) L C hM hR hP hD hS (List.range wc.length) ((List.range wr.length).map (fun i => wc.length + i)) (app_l wc wr) (app_r wc wr) (z_ndr _) (app_nd _ _) (app_dis _ _) q0 ci hq he hn hsz hst hW hdg (fun E ce q9 u H1 locs1 h1 h2 h3 h4 h5 h6 h7 => kx E ce q9 u H1 locs1 h1 (swp_P h2) (swp_D h3) h4 h5 h6 h7) (fun r u H1 locs1 h1 h2 h3 h4 => kk r u H1 locs1 h1 (swp_P h2) (swp_D h3) h4)
end AR
