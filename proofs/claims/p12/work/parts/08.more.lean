section XM
variable {p : Program} {l : Launch} {e : Env} {R : Room} {s : State} {m : MethodId} {args : Array Value} {below : List Frame} {meth : Method} {c : Code} {H : Heap} {locs : List Loc} {cells slots : Nat} {Q : State → Prop} {cc : ByteArray} {nL pc : Nat} {ls : Array Slot} {rest st0 : List Value} {G : kG} {own : String} {A : Nat → Prop} {ws : va_W} {Z : Nat → zSh} {n : Nat} {a : Nat → Nat} {g : Nat → Nat → Int32} {L : Nat → Nat → Int64}
theorem x_gen {x : Int32} (kk : ∀ y : Int32, x = y → W p l e R s m args below meth c H locs cells slots Q (F0 m pc ls (.int y :: rest))) : W p l e R s m args below meth c H locs cells slots Q (F0 m pc ls (.int x :: rest)) := kk x rfl
theorem x_prop {x : Int32} {φ : Int32 → Prop} (h : φ x) (kk : ∀ y : Int32, φ y → W p l e R s m args below meth c H locs cells slots Q (F0 m pc ls (.int y :: rest))) : W p l e R s m args below meth c H locs cells slots Q (F0 m pc ls (.int x :: rest)) := kk x h
theorem x_min {x y : Int32} {mm nn : Int} (hx : x.toInt = mm) (hy : y.toInt = nn) (kk : ∀ z : Int32, (z.toInt ≤ mm ∧ z.toInt ≤ nn ∧ (z.toInt = mm ∨ z.toInt = nn)) → W p l e R s m args below meth c H locs cells slots Q (F0 m pc ls (.int z :: rest))) : W p l e R s m args below meth c H locs cells slots Q (F0 m pc ls (.int (if y < x then y else x) :: rest)) := kk _ (ic_min hx hy)
theorem x_max {x y : Int32} {mm nn : Int} (hx : x.toInt = mm) (hy : y.toInt = nn) (kk : ∀ z : Int32, (mm ≤ z.toInt ∧ nn ≤ z.toInt ∧ (z.toInt = mm ∨ z.toInt = nn)) → W p l e R s m args below meth c H locs cells slots Q (F0 m pc ls (.int z :: rest))) : W p l e R s m args below meth c H locs cells slots Q (F0 m pc ls (.int (if x < y then y else x) :: rest)) := kk _ (ic_max hx hy)
theorem x_aaldQ {k N t : Nat} {i : Int32} (C : kC G p s m c cc nL own A) (hP : va_P G.1 vwCl (zw G Z n a g L) H) (hk : k < n) (hZ : Z k = .inr (t + 2, N)) (h1 : 0 ≤ i.toInt) (h2 : i.toInt < (N : Int)) (hdg : decode cc pc = .ok (.aaload, 1)) (kk : ∀ q : Nat, t ≤ q → q < t + N → W p l e R s m args below meth c H locs cells slots Q (F0 m (pc + 1) ls (.ref (a q) :: rest))) : W p l e R s m args below meth c H locs cells slots Q (F0 m pc ls (.int i :: .ref (a k) :: rest)) :=
  x_aald C hP hk hZ h1 h2 hdg (kk _ (Nat.le_add_right _ _) (by have e : i.toNatClampNeg = i.toInt.toNat := rfl; have e2 := Nat.mod_le i.toNatClampNeg 12; omega))
def kLA (own : String) (index : Nat) (y : MethodName) (cd : ByteArray) : Prop := Cond.methodLink own index y ∈ lw_tbl ∧ Cond.static y ∈ lw_tbl ∧ Cond.initialized "java/lang/Math" ∈ lw_tbl ∧ Cond.code y cd 1 (some .int) ∈ lw_tbl
theorem k_abs {index : Nat} {x : Int32} (L : kLA own index Lib.Math.abs.name Lib.Math.abs.code) (C : kC G p s m c cc nL own A) (hsz : ls.size = nL) (hf : 1 ≤ R.frames) (hl : (rest.map fun v => v.category).sum + 13 ≤ R.locals) (hc : cells ≤ R.cells) (hs : slots ≤ R.slots) (hdg : decode cc pc = .ok (.invokestatic index, 3)) (kk : W p l e R s m args below meth c H locs cells slots Q (F0 m (pc + 3) ls (.int (if 0 ≤ x then x else 0 - x) :: rest))) : W p l e R s m args below meth c H locs cells slots Q (F0 m pc ls (.int x :: rest)) :=
  va_mabs C.1 C.2.1 (C.2.2.1.trans hsz.symm) C.2.2.2.1 (C.2.2.2.2.1.w L.1 rfl) (C.2.2.2.2.1.w L.2.1 rfl) (C.2.2.2.2.1.w L.2.2.1 rfl) (C.2.2.2.2.1.w L.2.2.2 rfl) hf hl hc hs hdg kk
def kQr (G : kG) {S : Type} (post : S → Prop) (w : S → va_W) (ra : S → Nat) (A : Nat → Prop) : Array Value → State → Outcome → State → Prop := va_Qr post (fun u x t => kB G A (w u) t ∧ x = ra u) A
theorem k_callVr {S : Type} {post : S → Prop} {ra : S → Nat} {w : S → va_W} {index n maxL : Nat} {y : MethodName} {bytes : ByteArray} {rm : Room} {b : Nat} {As : List Value} {wc wr : va_W} {Cn : String} {ret : Option FieldType} (L : kLV own index Cn y bytes maxL ret n) (C : kC G p s m c cc nL own A) (hM : kM l y bytes maxL ret rm G (.ref b :: As) wc H.size (kQr G post w ra)) (hR : kLR rm R maxL cells slots) (hP : va_P G.1 vwCl ws H) (hD : va_D A ws) (hS : va_S A s.heap H locs) (isC isR : List Nat) (hC : isC.map (fun i => ws[i]?) = wc.map some) (hRr : isR.map (fun i => ws[i]?) = wr.map some) (hn0 : va_nd isC = true) (hn1 : va_nd isR = true) (hdis : ∀ i ∈ isR, i ∉ isC) (q0 ci : Nat) {cq : u_T × Nat} (hq : vwCl[ci]? = some (Cn, cq)) {fs : List Value} (he : wc[q0]? = some (b, .inr (ci, fs))) (hn : As.length = n) (hsz : ls.size = nL) (hst : st0 = As.reverse ++ .ref b :: rest) (hW : (rest.map fun v => v.category).sum ≤ 8) (hdg : decode cc pc = .ok (.invokevirtual index, 3))
    (kk : ∀ (u : S) (H1 : Heap) (locs1 : List Loc), post u → va_P G.1 vwCl (wr ++ w u) H1 → va_D A (wr ++ w u) → va_S A s.heap H1 locs1 → W p l e R s m args below meth c H1 locs1 (cells + rm.cells) (slots + rm.slots) Q (F0 m (pc + 3) ls (.ref (ra u) :: rest))) : W p l e R s m args below meth c H locs cells slots Q (F0 m pc ls st0) := by
  obtain ⟨hPc, hFc, hpre⟩ := k_cut C hP hD hS isC hC hn0 (.ref b :: As)
  obtain ⟨hx, hb, hml, hown, hE, hXx, hA⟩ := C
  obtain ⟨w1, w2, w3, w4, w5, w6⟩ := L
  refine va_callr (a := (.ref b :: As).toArray) (va_runV (As := As) (rest := rest) (Ts := []) ⟨hx, hb, hml, hown, fun _ h => nomatch h⟩ hM ⟨⟨rfl, rfl, hR.1, hR.2.1, (fun w hw a' U hW => by rw [List.mem_singleton.mp hw]; exact (hE.warm hW).w w4 rfl), List.mem_cons_self, hE.w w4 rfl, hE.w w5 rfl, ⟨w6.2.1, w6.2.2.1⟩, (fun sig h => by have h2 := w6.2.2.2; rw [h] at h2; exact (Option.some.inj h2).symm), hE.w w1 rfl⟩, hE.w w2 rfl, hE.w w3 rfl⟩ ⟨kP.blind, va_recv hE.2.1 hPc hq he, hpre⟩ rfl hn hsz hst (lv_room hW) hdg ⟨hR.2.2.1, hR.2.2.2⟩) hS (fun q _ h => hFc q h) hFc (fun u x t H1 locs1 ht hvm hw hB hz1 hk1 hS1 => ?_)
  obtain ⟨⟨hB1, hB2⟩, rfl⟩ := hB
  rw [ht] at hB1
  obtain ⟨hP1, hD1⟩ := va_join hP hD isC isR hC hRr hn1 hdis hk1 hFc hB1 hB2
  exact kk u H1 locs1 hw hP1 hD1 hS1
theorem x_callVr {S : Type} {post : S → Prop} {ra : S → Nat} {w : S → va_W} {index n maxL : Nat} {y : MethodName} {bytes : ByteArray} {rm : Room} {b : Nat} {As : List Value} {Cn : String} {ret : Option FieldType} (L : kLV own index Cn y bytes maxL ret n) (C : kC G p s m c cc nL own A) (hM : kM l y bytes maxL ret rm G (.ref b :: As) ws H.size (kQr G post w ra)) (hR : kLR rm R maxL cells slots) (hP : va_P G.1 vwCl ws H) (hD : va_D A ws) (hS : va_S A s.heap H locs) (q0 ci : Nat) {cq : u_T × Nat} (hq : vwCl[ci]? = some (Cn, cq)) {fs : List Value} (he : ws[q0]? = some (b, .inr (ci, fs))) (hn : As.length = n) (hsz : ls.size = nL) (hst : st0 = As.reverse ++ .ref b :: rest) (hW : (rest.map fun v => v.category).sum ≤ 8) (hdg : decode cc pc = .ok (.invokevirtual index, 3))
    (kk : ∀ (u : S) (H1 : Heap) (locs1 : List Loc), post u → va_P G.1 vwCl (w u) H1 → va_D A (w u) → va_S A s.heap H1 locs1 → W p l e R s m args below meth c H1 locs1 (cells + rm.cells) (slots + rm.slots) Q (F0 m (pc + 3) ls (.ref (ra u) :: rest))) : W p l e R s m args below meth c H locs cells slots Q (F0 m pc ls st0) :=
  k_callVr (wc := ws) (wr := []) L C hM hR hP hD hS (List.range ws.length) [] (z_rg ws) rfl (z_ndr _) rfl (fun i h => nomatch h) q0 ci hq he hn hsz hst hW hdg kk
theorem x_aret {S : Type} {post : S → Prop} {w : S → va_W} {ra : S → Nat} {mc ms r : Nat} (C : kC G p s m c cc nL own A) (hr : meth.sig.returnType = some (.array .int)) (hlk : meth.locks = false) (hP : va_P G.1 vwCl ws H) (hD : va_D A ws) (hS : va_S A s.heap H locs) (u : S) (hu : w u = ws) (hra : ra u = r) (hpost : post u) (hc : cells ≤ mc) (hs : slots ≤ ms) (hdg : decode cc pc = .ok (.areturn, 1)) :
    W p l e R s m args below meth c H locs cells slots (MQ below (kQr G post w ra A) args s mc ms A) (F0 m pc ls [.ref r]) := by
  refine W.widen hc hs ?_
  exact W.aret (v := .ref r) C.1 C.2.1 hr (Or.inr ⟨_, rfl⟩) (Or.inr ⟨_, rfl⟩) (fun t ht hW => ⟨⟨u, r, rfl, hpost, ⟨by rw [ht, hu]; exact hP, by rw [hu]; exact hD⟩, hra.symm⟩, hS.F ht⟩) hS.2.2 hdg (hlocks := hlk)
def kLT (own : String) (index : Nat) (y : MethodName) (host : String) (bytes : ByteArray) (maxL : Nat) (ret : Option FieldType) (n : Nat) : Prop :=
  Cond.methodLinkNest own index y host ∈ lw_tbl ∧ Cond.static y ∈ lw_tbl ∧ Cond.code y bytes maxL ret ∈ lw_tbl ∧ Cond.initialized y.cls ∈ lw_tbl ∧ (y.cls ≠ "java/lang/invoke/MethodHandle" ∧ y.cls ≠ "java/lang/invoke/VarHandle" ∧ (parseMethodDescriptor y.desc).map (fun d => d.parameters.length) = some n)
theorem k_callTi {S : Type} {post : Int32 → S → Prop} {w : S → va_W} {index n maxL : Nat} {y : MethodName} {bytes : ByteArray} {rm : Room} {As : List Value} {wc wr : va_W} {ret : Option FieldType} {host : String} (L : kLT own index y host bytes maxL ret n) (C : kC G p s m c cc nL own A) (hM : kM l y bytes maxL ret rm G As wc H.size (kQi G post w)) (hR : kLR rm R maxL cells slots) (hP : va_P G.1 vwCl ws H) (hD : va_D A ws) (hS : va_S A s.heap H locs) (isC isR : List Nat) (hC : isC.map (fun i => ws[i]?) = wc.map some) (hRr : isR.map (fun i => ws[i]?) = wr.map some) (hn0 : va_nd isC = true) (hn1 : va_nd isR = true) (hdis : ∀ i ∈ isR, i ∉ isC) (hn : As.length = n) (hsz : ls.size = nL) (hst : st0 = As.reverse ++ rest) (hW : (rest.map fun v => v.category).sum ≤ 8) (hdg : decode cc pc = .ok (.invokestatic index, 3))
    (kk : ∀ (r : Int32) (u : S) (H1 : Heap) (locs1 : List Loc), post r u → va_P G.1 vwCl (wr ++ w u) H1 → va_D A (wr ++ w u) → va_S A s.heap H1 locs1 → W p l e R s m args below meth c H1 locs1 (cells + rm.cells) (slots + rm.slots) Q (F0 m (pc + 3) ls (.int r :: rest))) : W p l e R s m args below meth c H locs cells slots Q (F0 m pc ls st0) := by
  obtain ⟨hPc, hFc, hpre⟩ := k_cut C hP hD hS isC hC hn0 As
  obtain ⟨hx, hb, hml, hown, hE, hXx, hA⟩ := C
  obtain ⟨w1, w2, w4, w5, w6⟩ := L
  refine va_calli (a := As.toArray) (va_runSN (As := As) (rest := rest) (Ts := []) ⟨hx, hb, hml, hown, fun _ h => nomatch h⟩ hM ⟨⟨⟨rfl, rfl, hR.1, hR.2.1, (fun w hw a' U hW => by rw [List.mem_singleton.mp hw]; exact (hE.warm hW).w w4 rfl), List.mem_cons_self⟩, hE.w w4 rfl, hE.w w5 rfl, ⟨w6.1, w6.2.1⟩, (fun sig h => by have h2 := w6.2.2; rw [h] at h2; exact (Option.some.inj h2).symm), hE.w w1 rfl⟩, hE.w w2 rfl, trivial⟩ ⟨kP.blind, hpre⟩ rfl hn hsz hst (lv_room hW) hdg ⟨hR.2.2.1, hR.2.2.2⟩) hS (fun q _ h => hFc q h) hFc (fun r u t H1 locs1 ht hvm hw hB hz1 hk1 hS1 => ?_)
  obtain ⟨hB1, hB2⟩ := hB
  rw [ht] at hB1
  obtain ⟨hP1, hD1⟩ := va_join hP hD isC isR hC hRr hn1 hdis hk1 hFc hB1 hB2
  exact kk r u H1 locs1 hw hP1 hD1 hS1
theorem x_callTi {S : Type} {post : Int32 → S → Prop} {w : S → va_W} {index n maxL : Nat} {y : MethodName} {bytes : ByteArray} {rm : Room} {As : List Value} {ret : Option FieldType} {host : String} (L : kLT own index y host bytes maxL ret n) (C : kC G p s m c cc nL own A) (hM : kM l y bytes maxL ret rm G As ws H.size (kQi G post w)) (hR : kLR rm R maxL cells slots) (hP : va_P G.1 vwCl ws H) (hD : va_D A ws) (hS : va_S A s.heap H locs) (hn : As.length = n) (hsz : ls.size = nL) (hst : st0 = As.reverse ++ rest) (hW : (rest.map fun v => v.category).sum ≤ 8) (hdg : decode cc pc = .ok (.invokestatic index, 3))
    (kk : ∀ (r : Int32) (u : S) (H1 : Heap) (locs1 : List Loc), post r u → va_P G.1 vwCl (w u) H1 → va_D A (w u) → va_S A s.heap H1 locs1 → W p l e R s m args below meth c H1 locs1 (cells + rm.cells) (slots + rm.slots) Q (F0 m (pc + 3) ls (.int r :: rest))) : W p l e R s m args below meth c H locs cells slots Q (F0 m pc ls st0) :=
  k_callTi (wc := ws) (wr := []) L C hM hR hP hD hS (List.range ws.length) [] (z_rg ws) rfl (z_ndr _) rfl (fun i h => nomatch h) hn hsz hst hW hdg kk
end XM
theorem ic_bva {z : BitVec 32} {n : Nat} (h : z.toNat < n) (hn : n ≤ 2147483648) : 0 ≤ z.toInt ∧ z.toInt < (n : Int) := by
  have e : z.toInt = (z.toNat : Int) := BitVec.toInt_eq_toNat_of_lt (by omega)
  omega
theorem ic_and1 (x : Int32) : 0 ≤ (x &&& 1).toInt ∧ (x &&& 1).toInt ≤ 1 := by
  have h : (x.toBitVec &&& 1#32).toNat < 2 := by
    rw [BitVec.toNat_and]
    show x.toBitVec.toNat &&& (2 ^ 1 - 1) < 2
    rw [Nat.and_two_pow_sub_one_eq_mod]
    omega
  have h2 : (x &&& 1).toInt = (x.toBitVec &&& 1#32).toInt := rfl
  have := ic_bva h (by decide)
  omega
theorem ic_and255 (x : Int32) : 0 ≤ (x &&& 255).toInt ∧ (x &&& 255).toInt ≤ 255 := by
  have h : (x.toBitVec &&& 255#32).toNat < 256 := by
    rw [BitVec.toNat_and]
    show x.toBitVec.toNat &&& (2 ^ 8 - 1) < 256
    rw [Nat.and_two_pow_sub_one_eq_mod]
    omega
  have h2 : (x &&& 255).toInt = (x.toBitVec &&& 255#32).toInt := rfl
  have := ic_bva h (by decide)
  omega
theorem ic_and32767 (x : Int32) : 0 ≤ (x &&& 32767).toInt ∧ (x &&& 32767).toInt ≤ 32767 := by
  have h : (x.toBitVec &&& 32767#32).toNat < 32768 := by
    rw [BitVec.toNat_and]
    show x.toBitVec.toNat &&& (2 ^ 15 - 1) < 32768
    rw [Nat.and_two_pow_sub_one_eq_mod]
    omega
  have h2 : (x &&& 32767).toInt = (x.toBitVec &&& 32767#32).toInt := rfl
  have := ic_bva h (by decide)
  omega
theorem ic_and31 (x : Int32) : 0 ≤ (x &&& 31).toInt ∧ (x &&& 31).toInt ≤ 31 := by
  have h : (x.toBitVec &&& 31#32).toNat < 32 := by
    rw [BitVec.toNat_and]
    show x.toBitVec.toNat &&& (2 ^ 5 - 1) < 32
    rw [Nat.and_two_pow_sub_one_eq_mod]
    omega
  have h2 : (x &&& 31).toInt = (x.toBitVec &&& 31#32).toInt := rfl
  have := ic_bva h (by decide)
  omega
theorem z_nar {x : Int32} : 0 ≤ (vp_nar .boolean x).toInt ∧ (vp_nar .boolean x).toInt ≤ 1 := ic_and1 x
theorem ic_shl1 {y : Int32} (h1 : 0 ≤ y.toInt) (h2 : y.toInt ≤ 8) : 1 ≤ ((1 : Int32) <<< (y &&& 31)).toInt ∧ ((1 : Int32) <<< (y &&& 31)).toInt ≤ 256 := by
  have hy : y = 0 ∨ y = 1 ∨ y = 2 ∨ y = 3 ∨ y = 4 ∨ y = 5 ∨ y = 6 ∨ y = 7 ∨ y = 8 := by
    have q : y.toInt = 0 ∨ y.toInt = 1 ∨ y.toInt = 2 ∨ y.toInt = 3 ∨ y.toInt = 4 ∨ y.toInt = 5 ∨ y.toInt = 6 ∨ y.toInt = 7 ∨ y.toInt = 8 := by omega
    rcases q with q | q | q | q | q | q | q | q | q
    · exact Or.inl (ic_eq.mpr q)
    · exact Or.inr (Or.inl (ic_eq.mpr q))
    · exact Or.inr (Or.inr (Or.inl (ic_eq.mpr q)))
    · exact Or.inr (Or.inr (Or.inr (Or.inl (ic_eq.mpr q))))
    · exact Or.inr (Or.inr (Or.inr (Or.inr (Or.inl (ic_eq.mpr q)))))
    · exact Or.inr (Or.inr (Or.inr (Or.inr (Or.inr (Or.inl (ic_eq.mpr q))))))
    · exact Or.inr (Or.inr (Or.inr (Or.inr (Or.inr (Or.inr (Or.inl (ic_eq.mpr q)))))))
    · exact Or.inr (Or.inr (Or.inr (Or.inr (Or.inr (Or.inr (Or.inr (Or.inl (ic_eq.mpr q))))))))
    · exact Or.inr (Or.inr (Or.inr (Or.inr (Or.inr (Or.inr (Or.inr (Or.inr (ic_eq.mpr q))))))))
  rcases hy with rfl | rfl | rfl | rfl | rfl | rfl | rfl | rfl | rfl <;> decide
theorem k_lcmp (x : Int64) : lg_cmp x x = 0 := by
  unfold lg_cmp
  rw [if_neg (show ¬ x > x from Int64.lt_irrefl), if_pos rfl]
theorem xs_row {b k : Nat} (h1 : 25 ≤ k) (h2 : k ≤ 28) : XS b k = .inr (0, 12) := by
  have h : k = 25 ∨ k = 26 ∨ k = 27 ∨ k = 28 := by omega
  rcases h with rfl | rfl | rfl | rfl <;> rfl
theorem xt_row {k j : Nat} (h1 : 25 ≤ k) (h2 : k ≤ 28) : XT k j = none := by
  have h : k = 25 ∨ k = 26 ∨ k = 27 ∨ k = 28 := by omega
  rcases h with rfl | rfl | rfl | rfl <;> rfl
