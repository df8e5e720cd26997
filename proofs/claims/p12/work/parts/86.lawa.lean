section LS
variable {p : Program} {l : Launch} {e : Env} {R : Room} {s : State} {m : MethodId} {args : Array Value} {below : List Frame} {meth : Method} {c : Code} {H : Heap} {locs : List Loc} {cells slots : Nat} {Q : State → Prop} {cc : ByteArray} {pc : Nat} {ls : Array Slot} {rest : List Value} {A : Nat → Prop}
theorem l_sld {b N i k : Nat} {xs : Nat → Int32} {iv kc : Int32} (hx : p.tables.exec = Jvm.exec) (hb : c.code = cc) (hX : va_X b N xs s s.heap) (hbl : b < s.heap.size) (hbA : ¬ A b) (hS : va_S A s.heap H locs) (hi : iv.toInt = (i : Int)) (hk : kc.toInt = (k : Int)) (hN : i + k < N) (hN2 : N ≤ 3072) (hdg : decode cc pc = .ok (.iaload, 1)) (kk : W p l e R s m args below meth c H locs cells slots Q (F0 m (pc + 1) ls (.int (xs (i + k)) :: rest))) : W p l e R s m args below meth c H locs cells slots Q (F0 m pc ls (.int (iv + kc) :: .ref b :: rest)) := by
  have e : (iv + kc).toInt = ((i + k : Nat) : Int) := by rw [ic_addc hi hk (by omega) (by omega)]; omega
  have n : (iv + kc).toNatClampNeg = i + k := by show (iv + kc).toInt.toNat = i + k; rw [e]; omega
  refine va_sld hx hb hX hbl hbA hS (vp_in_iff.mpr ⟨by omega, by omega⟩) hdg ?_
  rw [n]; exact kk
end LS
theorem zw_len {G : kG} {Z : Nat → zSh} {n : Nat} {a : Nat → Nat} {g : Nat → Nat → Int32} {L : Nat → Nat → Int64} : (zw G Z n a g L).length = n := by unfold zw; rw [List.length_map, List.length_range]
theorem zw_out {X Y : va_W} {c} {n k : Nat} (h1 : X.length = n) (h2 : Y.length = k) : (X ++ (Y ++ [c]))[n + k]? = some c := by
  rw [List.getElem?_append_right (by omega), List.getElem?_append_right (by omega), h1, h2]
  have e : n + k - n - k = 0 := by omega
  rw [e]; rfl
theorem wcmp1 {α : Type} {rx : Except String α} {t k : Int32} {E : String} {x : Int64} {f : α → Int64} {rm : α} (hc : (rx = .ok rm ∧ t = 0) ∨ (rx = .error E ∧ t = 1)) (hw : (∃ v, rx = .ok v ∧ k = 0 ∧ x = f v) ∨ (rx = .error E ∧ k = 1)) : t = k ∧ (k = 0 → x = f rm) := by
  rcases hc with ⟨c1, c2⟩ | ⟨c1, c2⟩
  · rcases hw with ⟨v, d1, d2, d3⟩ | ⟨d1, d2⟩
    · rw [c1] at d1; cases d1; exact ⟨c2.trans d2.symm, fun _ => d3⟩
    · rw [c1] at d1; exact nomatch d1
  · rcases hw with ⟨v, d1, d2, d3⟩ | ⟨d1, d2⟩
    · rw [c1] at d1; exact nomatch d1
    · exact ⟨c2.trans d2.symm, fun h => absurd (d2.symm.trans h) (by decide)⟩
theorem wcmp2 {α : Type} {rx : Except String α} {t k : Int32} {E F : String} {x : Int64} {f : α → Int64} {rm : α} (hEF : E ≠ F) (hc : (rx = .ok rm ∧ t = 0) ∨ (rx = .error E ∧ t = 1) ∨ (rx = .error F ∧ t = 2)) (hw : (∃ v, rx = .ok v ∧ k = 0 ∧ x = f v) ∨ (rx = .error E ∧ k = 1) ∨ (rx = .error F ∧ k = 2)) : t = k ∧ (k = 0 → x = f rm) := by
  rcases hc with ⟨c1, c2⟩ | ⟨c1, c2⟩ | ⟨c1, c2⟩
  · rcases hw with ⟨v, d1, d2, d3⟩ | ⟨d1, d2⟩ | ⟨d1, d2⟩
    · rw [c1] at d1; cases d1; exact ⟨c2.trans d2.symm, fun _ => d3⟩
    · rw [c1] at d1; exact nomatch d1
    · rw [c1] at d1; exact nomatch d1
  · rcases hw with ⟨v, d1, d2, d3⟩ | ⟨d1, d2⟩ | ⟨d1, d2⟩
    · rw [c1] at d1; exact nomatch d1
    · exact ⟨c2.trans d2.symm, fun h => absurd (d2.symm.trans h) (by decide)⟩
    · rw [c1] at d1; cases d1; exact absurd rfl hEF
  · rcases hw with ⟨v, d1, d2, d3⟩ | ⟨d1, d2⟩ | ⟨d1, d2⟩
    · rw [c1] at d1; exact nomatch d1
    · rw [c1] at d1; cases d1; exact absurd rfl hEF
    · exact ⟨c2.trans d2.symm, fun h => absurd (d2.symm.trans h) (by decide)⟩
set_option maxHeartbeats 4000000 in
set_option maxRecDepth 100000 in
theorem law_0 {p : Program} {e : Env} {s : State} {m : MethodId} {below : List Frame} {meth : Method} {c : Code} {l : Launch} (hst : l.stackTraces = false) {b N : Nat} {xs : Nat → Int32} {G : kG} {A : Nat → Prop} (hN2 : N ≤ 3072) (C0 : lw_At p s m meth c b N xs) (hA : A = fun q : Nat => s.heap.size ≤ q) (C : kC G p s m c cL_law 8 RL A) {i : Nat} {iv : Int32} (hi : iv.toInt = (i : Int)) (hN : i + 6 ≤ N) {bx : Nat} {a am : Nat → Nat} {fu : Nat} {g gm : Nat → Nat → Int32} {L Lm : Nat → Nat → Int64} {qo : Nat} {fJ : Nat → Int64} {cN sN : Nat} (hcN : cN + 10 ≤ 601024) (hsN : sN + 60 ≤ 7293033) {rx : Int32} {sx : zS} {rm : Int32} {sm : zS} (hxx : fX11_feed_0 fu (xs (i + 1)) (xs (i + 2)) (xs (i + 3)) (xs (i + 4)) (xs (i + 5)) g L = some (rx, sx)) (hm : fX12_feed fu (xs (i + 1)) (xs (i + 2)) (xs (i + 3)) (xs (i + 4)) (xs (i + 5)) gm Lm = some (rm, sm)) {H : Heap} {locs : List Loc} {ls : Array Slot} (hP : va_P G.1 vwCl (zw G MS 51 am gm Lm ++ (zw G (XS bx) 105 a g L ++ [(qo, .inl (G.2.2.2.2.1, 1, .inr (.inl fJ)))])) H) (hD : va_D A (zw G MS 51 am gm Lm ++ (zw G (XS bx) 105 a g L ++ [(qo, .inl (G.2.2.2.2.1, 1, .inr (.inl fJ)))]))) (hS : va_S A s.heap H locs) (hl : lv_has ls 8 [(0, .ref b), (1, .ref (a 0)), (2, .ref (am 0)), (3, .ref qo), (4, .int iv)]) (kk : ∀ (bx2 : Nat) (a2 : Nat → Nat) (fJ2 : Nat → Int64) (H1 : Heap) (locs1 : List Loc) (ls1 : Array Slot), va_P G.1 vwCl (zw G MS 51 am sm.1 sm.2 ++ (zw G (XS bx2) 105 a2 sx.1 sx.2 ++ [(qo, .inl (G.2.2.2.2.1, 1, .inr (.inl fJ2)))])) H1 → va_D A (zw G MS 51 am sm.1 sm.2 ++ (zw G (XS bx2) 105 a2 sx.1 sx.2 ++ [(qo, .inl (G.2.2.2.2.1, 1, .inr (.inl fJ2)))])) → va_S A s.heap H1 locs1 → lv_has ls1 8 [(0, .ref b), (1, .ref (a2 0)), (2, .ref (am 0)), (3, .ref qo), (4, .int iv)] → W p l e room_1 s m #[Value.ref b] below meth c H1 locs1 (cN + 10) (sN + 60) (lw_Z below #[Value.ref b] s) (F0 m 1511 ls1 [])) : W p l e room_1 s m #[Value.ref b] below meth c H locs cN sN (lw_Z below #[Value.ref b] s) (F0 m 212 ls []) := by
  obtain ⟨hx, hb, hr, -, -, -, hX, hbl, hlocks, -⟩ := id C0
  have hbA : ¬ A b := by rw [hA]; exact Nat.not_le.mpr hbl
  refine W.widen (k := cN + 0) (n := sN + 0) (Nat.le_refl _) (Nat.le_refl _) ?_
  refine lv_aload_n hx hb dL_law_212 rfl (lv_at hl 1 rfl) ?_
  refine lv_aload_n hx hb dL_law_213 rfl (lv_at hl 0 rfl) ?_
  refine lv_iload hx hb dL_law_214 (lv_at hl 4 rfl) ?_
  refine lv_iconst (v := 1) hx hb dL_law_216 (by decide) ?_
  refine lv_iadd hx hb dL_law_217 ?_
  refine l_sld (k := 1) hx hb hX hbl hbA hS hi (by decide) (l_lt hN rfl) hN2 dL_law_218 ?_
  refine lv_aload_n hx hb dL_law_219 rfl (lv_at hl 0 rfl) ?_
  refine lv_iload hx hb dL_law_220 (lv_at hl 4 rfl) ?_
  refine lv_iconst (v := 2) hx hb dL_law_222 (by decide) ?_
  refine lv_iadd hx hb dL_law_223 ?_
  refine l_sld (k := 2) hx hb hX hbl hbA hS hi (by decide) (l_lt hN rfl) hN2 dL_law_224 ?_
  refine lv_aload_n hx hb dL_law_225 rfl (lv_at hl 0 rfl) ?_
  refine lv_iload hx hb dL_law_226 (lv_at hl 4 rfl) ?_
  refine lv_iconst (v := 3) hx hb dL_law_228 (by decide) ?_
  refine lv_iadd hx hb dL_law_229 ?_
  refine l_sld (k := 3) hx hb hX hbl hbA hS hi (by decide) (l_lt hN rfl) hN2 dL_law_230 ?_
  refine lv_aload_n hx hb dL_law_231 rfl (lv_at hl 0 rfl) ?_
  refine lv_iload hx hb dL_law_232 (lv_at hl 4 rfl) ?_
  refine lv_iconst (v := 4) hx hb dL_law_234 (by decide) ?_
  refine lv_iadd hx hb dL_law_235 ?_
  refine l_sld (k := 4) hx hb hX hbl hbA hS hi (by decide) (l_lt hN rfl) hN2 dL_law_236 ?_
  refine lv_aload_n hx hb dL_law_237 rfl (lv_at hl 0 rfl) ?_
  refine lv_iload hx hb dL_law_238 (lv_at hl 4 rfl) ?_
  refine lv_iconst (v := 5) hx hb dL_law_240 (by decide) ?_
  refine lv_iadd hx hb dL_law_241 ?_
  refine l_sld (k := 5) hx hb hX hbl hbA hS hi (by decide) (l_lt hN rfl) hN2 dL_law_242 ?_
  have hP := swp_P hP
  have hD := swp_D hD
  rw [List.append_assoc] at hP hD
  refine a_callVi (wr := [(qo, .inl (G.2.2.2.2.1, 1, .inr (.inl fJ)))] ++ zw G MS 51 am gm Lm) (rest := []) li_L_107 C (rX11_feed_0 l G H.size bx a fu g L (xs (i + 1)) (xs (i + 2)) (xs (i + 3)) (xs (i + 4)) (xs (i + 5)) rx sx hxx) ⟨(Nat.le_of_ble_eq_true rfl), (Nat.le_of_ble_eq_true rfl), (show cN + 0 + 0 ≤ 601024 from l_le hcN rfl), (show sN + 0 + 0 ≤ 7293033 from l_le hsN rfl)⟩ hP hD hS 0 11 rfl (zat (by decide) xs_0) rfl hl.1 rfl (Nat.le_of_ble_eq_true rfl) dL_law_243 (fun r_ u_ H locs hw_ hP hD hS => ?_)
  rw [← List.append_assoc] at hP hD
  have hP := swp_P hP
  have hD := swp_D hD
  obtain rfl : rx = r_ := (show r_ = rx from hw_).symm
  refine W.widen (k := cN + 0) (n := sN + 0) (Nat.le_refl _) (Nat.le_refl _) ?_
  have hP : va_P G.1 vwCl (zw G MS 51 am gm Lm ++ (zw G (XS bx) 105 a sx.1 sx.2 ++ [(qo, .inl (G.2.2.2.2.1, 1, .inr (.inl fJ)))])) H := hP
  have hD : va_D A (zw G MS 51 am gm Lm ++ (zw G (XS bx) 105 a sx.1 sx.2 ++ [(qo, .inl (G.2.2.2.2.1, 1, .inr (.inl fJ)))])) := hD
  refine lv_pop hx hb dL_law_246 rfl ?_
  refine lv_aload_n hx hb dL_law_247 rfl (lv_at hl 2 rfl) ?_
  refine lv_aload_n hx hb dL_law_248 rfl (lv_at hl 0 rfl) ?_
  refine lv_iload hx hb dL_law_249 (lv_at hl 4 rfl) ?_
  refine lv_iconst (v := 1) hx hb dL_law_251 (by decide) ?_
  refine lv_iadd hx hb dL_law_252 ?_
  refine l_sld (k := 1) hx hb hX hbl hbA hS hi (by decide) (l_lt hN rfl) hN2 dL_law_253 ?_
  refine lv_aload_n hx hb dL_law_254 rfl (lv_at hl 0 rfl) ?_
  refine lv_iload hx hb dL_law_255 (lv_at hl 4 rfl) ?_
  refine lv_iconst (v := 2) hx hb dL_law_257 (by decide) ?_
  refine lv_iadd hx hb dL_law_258 ?_
  refine l_sld (k := 2) hx hb hX hbl hbA hS hi (by decide) (l_lt hN rfl) hN2 dL_law_259 ?_
  refine lv_aload_n hx hb dL_law_260 rfl (lv_at hl 0 rfl) ?_
  refine lv_iload hx hb dL_law_261 (lv_at hl 4 rfl) ?_
  refine lv_iconst (v := 3) hx hb dL_law_263 (by decide) ?_
  refine lv_iadd hx hb dL_law_264 ?_
  refine l_sld (k := 3) hx hb hX hbl hbA hS hi (by decide) (l_lt hN rfl) hN2 dL_law_265 ?_
  refine lv_aload_n hx hb dL_law_266 rfl (lv_at hl 0 rfl) ?_
  refine lv_iload hx hb dL_law_267 (lv_at hl 4 rfl) ?_
  refine lv_iconst (v := 4) hx hb dL_law_269 (by decide) ?_
  refine lv_iadd hx hb dL_law_270 ?_
  refine l_sld (k := 4) hx hb hX hbl hbA hS hi (by decide) (l_lt hN rfl) hN2 dL_law_271 ?_
  refine lv_aload_n hx hb dL_law_272 rfl (lv_at hl 0 rfl) ?_
  refine lv_iload hx hb dL_law_273 (lv_at hl 4 rfl) ?_
  refine lv_iconst (v := 5) hx hb dL_law_275 (by decide) ?_
  refine lv_iadd hx hb dL_law_276 ?_
  refine l_sld (k := 5) hx hb hX hbl hbA hS hi (by decide) (l_lt hN rfl) hN2 dL_law_277 ?_
  refine a_callVi (wr := zw G (XS bx) 105 a sx.1 sx.2 ++ [(qo, .inl (G.2.2.2.2.1, 1, .inr (.inl fJ)))]) (rest := []) li_L_111 C (rX12_feed l G H.size am fu gm Lm (xs (i + 1)) (xs (i + 2)) (xs (i + 3)) (xs (i + 4)) (xs (i + 5)) rm sm hm) ⟨(Nat.le_of_ble_eq_true rfl), (Nat.le_of_ble_eq_true rfl), (show cN + 0 + 0 ≤ 601024 from l_le hcN rfl), (show sN + 0 + 0 ≤ 7293033 from l_le hsN rfl)⟩ hP hD hS 0 12 rfl (zat (by decide) ms_0) rfl hl.1 rfl (Nat.le_of_ble_eq_true rfl) dL_law_278 (fun r_ um_ H locs hw_ hP hD hS => ?_)
  obtain rfl : rm = r_ := (show r_ = rm from hw_).symm
  refine W.widen (k := cN + 0) (n := sN + 0) (Nat.le_refl _) (Nat.le_refl _) ?_
  have hP : va_P G.1 vwCl (zw G MS 51 am sm.1 sm.2 ++ (zw G (XS bx) 105 a sx.1 sx.2 ++ [(qo, .inl (G.2.2.2.2.1, 1, .inr (.inl fJ)))])) H := hP
  have hD : va_D A (zw G MS 51 am sm.1 sm.2 ++ (zw G (XS bx) 105 a sx.1 sx.2 ++ [(qo, .inl (G.2.2.2.2.1, 1, .inr (.inl fJ)))])) := hD
  refine lv_pop hx hb dL_law_281 rfl ?_
  refine lv_goto (tgt := 1511) hx hb dL_law_282 (by decide) ?_
  refine W.widen (k := cN + 10) (n := sN + 60) (by omega) (by omega) ?_
  exact kk bx a fJ H locs ls hP hD hS (lv_sub hl [0, 1, 2, 3, 4] rfl)
set_option maxHeartbeats 4000000 in
set_option maxRecDepth 100000 in
theorem law_1 {p : Program} {e : Env} {s : State} {m : MethodId} {below : List Frame} {meth : Method} {c : Code} {l : Launch} (hst : l.stackTraces = false) {b N : Nat} {xs : Nat → Int32} {G : kG} {A : Nat → Prop} (hN2 : N ≤ 3072) (C0 : lw_At p s m meth c b N xs) (hA : A = fun q : Nat => s.heap.size ≤ q) (C : kC G p s m c cL_law 8 RL A) {i : Nat} {iv : Int32} (hi : iv.toInt = (i : Int)) (hN : i + 6 ≤ N) {bx : Nat} {a am : Nat → Nat} {fu : Nat} {g gm : Nat → Nat → Int32} {L Lm : Nat → Nat → Int64} {qo : Nat} {fJ : Nat → Int64} {cN sN : Nat} (hcN : cN + 10 ≤ 601024) (hsN : sN + 60 ≤ 7293033) {rx : Except String Int32} {sx : zS} {rm : Int32} {sm : zS} (hxx : fX11_house_0 fu (xs (i + 1)) g L = some (rx, sx)) (hE : ∀ E, rx = .error E → E = "java/lang/IllegalArgumentException") (hm : fX12_house fu (xs (i + 1)) gm Lm = some (rm, sm)) {H : Heap} {locs : List Loc} {ls : Array Slot} (hP : va_P G.1 vwCl (zw G MS 51 am gm Lm ++ (zw G (XS bx) 105 a g L ++ [(qo, .inl (G.2.2.2.2.1, 1, .inr (.inl fJ)))])) H) (hD : va_D A (zw G MS 51 am gm Lm ++ (zw G (XS bx) 105 a g L ++ [(qo, .inl (G.2.2.2.2.1, 1, .inr (.inl fJ)))]))) (hS : va_S A s.heap H locs) (hl : lv_has ls 8 [(0, .ref b), (1, .ref (a 0)), (2, .ref (am 0)), (3, .ref qo), (4, .int iv)]) (kk : ∀ (bx2 : Nat) (a2 : Nat → Nat) (fJ2 : Nat → Int64) (H1 : Heap) (locs1 : List Loc) (ls1 : Array Slot), va_P G.1 vwCl (zw G MS 51 am sm.1 sm.2 ++ (zw G (XS bx2) 105 a2 sx.1 sx.2 ++ [(qo, .inl (G.2.2.2.2.1, 1, .inr (.inl fJ2)))])) H1 → va_D A (zw G MS 51 am sm.1 sm.2 ++ (zw G (XS bx2) 105 a2 sx.1 sx.2 ++ [(qo, .inl (G.2.2.2.2.1, 1, .inr (.inl fJ2)))])) → va_S A s.heap H1 locs1 → lv_has ls1 8 [(0, .ref b), (1, .ref (a2 0)), (2, .ref (am 0)), (3, .ref qo), (4, .int iv)] → W p l e room_1 s m #[Value.ref b] below meth c H1 locs1 (cN + 10) (sN + 60) (lw_Z below #[Value.ref b] s) (F0 m 1511 ls1 [])) : W p l e room_1 s m #[Value.ref b] below meth c H locs cN sN (lw_Z below #[Value.ref b] s) (F0 m 285 ls []) := by
  obtain ⟨hx, hb, hr, -, -, -, hX, hbl, hlocks, -⟩ := id C0
  have hbA : ¬ A b := by rw [hA]; exact Nat.not_le.mpr hbl
  refine W.widen (k := cN + 0) (n := sN + 0) (Nat.le_refl _) (Nat.le_refl _) ?_
  refine lv_aload_n hx hb dL_law_285 rfl (lv_at hl 1 rfl) ?_
  refine lv_aload_n hx hb dL_law_286 rfl (lv_at hl 0 rfl) ?_
  refine lv_iload hx hb dL_law_287 (lv_at hl 4 rfl) ?_
  refine lv_iconst (v := 1) hx hb dL_law_289 (by decide) ?_
  refine lv_iadd hx hb dL_law_290 ?_
  refine l_sld (k := 1) hx hb hX hbl hbA hS hi (by decide) (l_lt hN rfl) hN2 dL_law_291 ?_
  refine lv_aload_n hx hb dL_law_292 rfl (lv_at hl 3 rfl) ?_
  have hP := swp_P hP
  have hD := swp_D hD
  refine a_callHi (wc := zw G (XS bx) 105 a g L ++ [(qo, .inl (G.2.2.2.2.1, 1, .inr (.inl fJ)))]) (wr := zw G MS 51 am gm Lm) (rest := []) li_L_112 C (wL_house l hst G H.size bx a fu g L (xs (i + 1)) qo fJ rx sx hxx hE) ⟨(Nat.le_of_ble_eq_true rfl), (Nat.le_of_ble_eq_true rfl), (show cN + 0 + 1 ≤ 601024 from l_le hcN rfl), (show sN + 0 + 6 ≤ 7293033 from l_le hsN rfl)⟩ hP hD hS rfl hl.1 rfl (Nat.le_of_ble_eq_true rfl) dL_law_293 (fun k_ u_ H locs hwx_ hP hD hS => ?_)
  have hP := swp_P hP
  have hD := swp_D hD
  obtain ⟨bx2, a2, fJ2⟩ := u_
  obtain ⟨hwx_, ea⟩ := hwx_
  have ea : a 0 = a2 0 := ea.symm
  rw [ea] at hl
  refine W.widen (k := cN + 1) (n := sN + 6) (Nat.le_refl _) (Nat.le_refl _) ?_
  have hP : va_P G.1 vwCl (zw G MS 51 am gm Lm ++ (zw G (XS bx2) 105 a2 sx.1 sx.2 ++ [(qo, .inl (G.2.2.2.2.1, 1, .inr (.inl fJ2)))])) H := hP
  have hD : va_D A (zw G MS 51 am gm Lm ++ (zw G (XS bx2) 105 a2 sx.1 sx.2 ++ [(qo, .inl (G.2.2.2.2.1, 1, .inr (.inl fJ2)))])) := hD
  refine lv_istore (lv' := [(5, .int k_), (0, .ref b), (1, .ref (a2 0)), (2, .ref (am 0)), (3, .ref qo), (4, .int iv)]) hx hb dL_law_296 hl (by decide) rfl (fun ls hl => ?_)
  refine lv_aload_n hx hb dL_law_298 rfl (lv_at hl 3 rfl) ?_
  refine lv_aload_n hx hb dL_law_299 rfl (lv_at hl 1 rfl) ?_
  refine lv_iload hx hb dL_law_300 (lv_at hl 5 rfl) ?_
  refine lv_iconst (v := 1) hx hb dL_law_302 (by decide) ?_
  refine lv_iadd hx hb dL_law_303 ?_
  refine l_sld (k := 1) hx hb hX hbl hbA hS hi (by decide) (l_lt hN rfl) hN2 dL_law_304 ?_
  refine a_callVi (wr := zw G (XS bx2) 105 a2 sx.1 sx.2 ++ [(qo, .inl (G.2.2.2.2.1, 1, .inr (.inl fJ2)))]) (rest := []) li_L_117 C (rX12_house l G H.size am fu gm Lm (xs (i + 1)) rm sm hm) ⟨(Nat.le_of_ble_eq_true rfl), (Nat.le_of_ble_eq_true rfl), (show cN + 1 + 0 ≤ 601024 from l_le hcN rfl), (show sN + 6 + 0 ≤ 7293033 from l_le hsN rfl)⟩ hP hD hS 0 12 rfl (zat (by decide) ms_0) rfl hl.1 rfl (Nat.le_of_ble_eq_true rfl) dL_law_305 (fun r_ um_ H locs hw_ hP hD hS => ?_)
  obtain rfl : rm = r_ := (show r_ = rm from hw_).symm
  refine W.widen (k := cN + 1) (n := sN + 6) (Nat.le_refl _) (Nat.le_refl _) ?_
  have hP : va_P G.1 vwCl (zw G MS 51 am sm.1 sm.2 ++ (zw G (XS bx2) 105 a2 sx.1 sx.2 ++ [(qo, .inl (G.2.2.2.2.1, 1, .inr (.inl fJ2)))])) H := hP
  have hD : va_D A (zw G MS 51 am sm.1 sm.2 ++ (zw G (XS bx2) 105 a2 sx.1 sx.2 ++ [(qo, .inl (G.2.2.2.2.1, 1, .inr (.inl fJ2)))])) := hD
  refine lv_istore (lv' := [(6, .int rm), (5, .int k_), (0, .ref b), (1, .ref (a2 0)), (2, .ref (am 0)), (3, .ref qo), (4, .int iv)]) hx hb dL_law_308 hl (by decide) rfl (fun ls hl => ?_)
  refine lv_goto (tgt := 1511) hx hb dL_law_310 (by decide) ?_
  refine W.widen (k := cN + 10) (n := sN + 60) (by omega) (by omega) ?_
  exact kk bx2 a2 fJ2 H locs ls hP hD hS (lv_sub hl [2, 3, 4, 5, 6] rfl)
set_option maxHeartbeats 4000000 in
set_option maxRecDepth 100000 in
theorem law_2 {p : Program} {e : Env} {s : State} {m : MethodId} {below : List Frame} {meth : Method} {c : Code} {l : Launch} (hst : l.stackTraces = false) {b N : Nat} {xs : Nat → Int32} {G : kG} {A : Nat → Prop} (hN2 : N ≤ 3072) (C0 : lw_At p s m meth c b N xs) (hA : A = fun q : Nat => s.heap.size ≤ q) (C : kC G p s m c cL_law 8 RL A) {i : Nat} {iv : Int32} (hi : iv.toInt = (i : Int)) (hN : i + 6 ≤ N) {bx : Nat} {a am : Nat → Nat} {fu : Nat} {g gm : Nat → Nat → Int32} {L Lm : Nat → Nat → Int64} {qo : Nat} {fJ : Nat → Int64} {cN sN : Nat} (hcN : cN + 10 ≤ 601024) (hsN : sN + 60 ≤ 7293033) {rx : Int32} {sx : zS} {rm : Int32} {sm : zS} (hxx : fX11_fault_0 fu  g L = some (rx, sx)) (hm : fX12_fault fu  gm Lm = some (rm, sm)) {H : Heap} {locs : List Loc} {ls : Array Slot} (hP : va_P G.1 vwCl (zw G MS 51 am gm Lm ++ (zw G (XS bx) 105 a g L ++ [(qo, .inl (G.2.2.2.2.1, 1, .inr (.inl fJ)))])) H) (hD : va_D A (zw G MS 51 am gm Lm ++ (zw G (XS bx) 105 a g L ++ [(qo, .inl (G.2.2.2.2.1, 1, .inr (.inl fJ)))]))) (hS : va_S A s.heap H locs) (hl : lv_has ls 8 [(0, .ref b), (1, .ref (a 0)), (2, .ref (am 0)), (3, .ref qo), (4, .int iv)]) (kk : ∀ (bx2 : Nat) (a2 : Nat → Nat) (fJ2 : Nat → Int64) (H1 : Heap) (locs1 : List Loc) (ls1 : Array Slot), va_P G.1 vwCl (zw G MS 51 am sm.1 sm.2 ++ (zw G (XS bx2) 105 a2 sx.1 sx.2 ++ [(qo, .inl (G.2.2.2.2.1, 1, .inr (.inl fJ2)))])) H1 → va_D A (zw G MS 51 am sm.1 sm.2 ++ (zw G (XS bx2) 105 a2 sx.1 sx.2 ++ [(qo, .inl (G.2.2.2.2.1, 1, .inr (.inl fJ2)))])) → va_S A s.heap H1 locs1 → lv_has ls1 8 [(0, .ref b), (1, .ref (a2 0)), (2, .ref (am 0)), (3, .ref qo), (4, .int iv)] → W p l e room_1 s m #[Value.ref b] below meth c H1 locs1 (cN + 10) (sN + 60) (lw_Z below #[Value.ref b] s) (F0 m 1511 ls1 [])) : W p l e room_1 s m #[Value.ref b] below meth c H locs cN sN (lw_Z below #[Value.ref b] s) (F0 m 313 ls []) := by
  obtain ⟨hx, hb, hr, -, -, -, hX, hbl, hlocks, -⟩ := id C0
  have hbA : ¬ A b := by rw [hA]; exact Nat.not_le.mpr hbl
  refine W.widen (k := cN + 0) (n := sN + 0) (Nat.le_refl _) (Nat.le_refl _) ?_
  refine lv_aload_n hx hb dL_law_313 rfl (lv_at hl 1 rfl) ?_
  have hP := swp_P hP
  have hD := swp_D hD
  rw [List.append_assoc] at hP hD
  refine a_callVi (wr := [(qo, .inl (G.2.2.2.2.1, 1, .inr (.inl fJ)))] ++ zw G MS 51 am gm Lm) (rest := []) li_L_118 C (rX11_fault_0 l G H.size bx a fu g L  rx sx hxx) ⟨(Nat.le_of_ble_eq_true rfl), (Nat.le_of_ble_eq_true rfl), (show cN + 0 + 0 ≤ 601024 from l_le hcN rfl), (show sN + 0 + 0 ≤ 7293033 from l_le hsN rfl)⟩ hP hD hS 0 11 rfl (zat (by decide) xs_0) rfl hl.1 rfl (Nat.le_of_ble_eq_true rfl) dL_law_314 (fun r_ u_ H locs hw_ hP hD hS => ?_)
  rw [← List.append_assoc] at hP hD
  have hP := swp_P hP
  have hD := swp_D hD
  obtain rfl : rx = r_ := (show r_ = rx from hw_).symm
  refine W.widen (k := cN + 0) (n := sN + 0) (Nat.le_refl _) (Nat.le_refl _) ?_
  have hP : va_P G.1 vwCl (zw G MS 51 am gm Lm ++ (zw G (XS bx) 105 a sx.1 sx.2 ++ [(qo, .inl (G.2.2.2.2.1, 1, .inr (.inl fJ)))])) H := hP
  have hD : va_D A (zw G MS 51 am gm Lm ++ (zw G (XS bx) 105 a sx.1 sx.2 ++ [(qo, .inl (G.2.2.2.2.1, 1, .inr (.inl fJ)))])) := hD
  refine lv_pop hx hb dL_law_317 rfl ?_
  refine lv_aload_n hx hb dL_law_318 rfl (lv_at hl 2 rfl) ?_
  refine a_callVi (wr := zw G (XS bx) 105 a sx.1 sx.2 ++ [(qo, .inl (G.2.2.2.2.1, 1, .inr (.inl fJ)))]) (rest := []) li_L_122 C (rX12_fault l G H.size am fu gm Lm  rm sm hm) ⟨(Nat.le_of_ble_eq_true rfl), (Nat.le_of_ble_eq_true rfl), (show cN + 0 + 0 ≤ 601024 from l_le hcN rfl), (show sN + 0 + 0 ≤ 7293033 from l_le hsN rfl)⟩ hP hD hS 0 12 rfl (zat (by decide) ms_0) rfl hl.1 rfl (Nat.le_of_ble_eq_true rfl) dL_law_319 (fun r_ um_ H locs hw_ hP hD hS => ?_)
  obtain rfl : rm = r_ := (show r_ = rm from hw_).symm
  refine W.widen (k := cN + 0) (n := sN + 0) (Nat.le_refl _) (Nat.le_refl _) ?_
  have hP : va_P G.1 vwCl (zw G MS 51 am sm.1 sm.2 ++ (zw G (XS bx) 105 a sx.1 sx.2 ++ [(qo, .inl (G.2.2.2.2.1, 1, .inr (.inl fJ)))])) H := hP
  have hD : va_D A (zw G MS 51 am sm.1 sm.2 ++ (zw G (XS bx) 105 a sx.1 sx.2 ++ [(qo, .inl (G.2.2.2.2.1, 1, .inr (.inl fJ)))])) := hD
  refine lv_pop hx hb dL_law_322 rfl ?_
  refine lv_goto (tgt := 1511) hx hb dL_law_323 (by decide) ?_
  refine W.widen (k := cN + 10) (n := sN + 60) (by omega) (by omega) ?_
  exact kk bx a fJ H locs ls hP hD hS (lv_sub hl [0, 1, 2, 3, 4] rfl)
set_option maxHeartbeats 4000000 in
set_option maxRecDepth 100000 in
theorem law_3 {p : Program} {e : Env} {s : State} {m : MethodId} {below : List Frame} {meth : Method} {c : Code} {l : Launch} (hst : l.stackTraces = false) {b N : Nat} {xs : Nat → Int32} {G : kG} {A : Nat → Prop} (hN2 : N ≤ 3072) (C0 : lw_At p s m meth c b N xs) (hA : A = fun q : Nat => s.heap.size ≤ q) (C : kC G p s m c cL_law 8 RL A) {i : Nat} {iv : Int32} (hi : iv.toInt = (i : Int)) (hN : i + 6 ≤ N) {bx : Nat} {a am : Nat → Nat} {fu : Nat} {g gm : Nat → Nat → Int32} {L Lm : Nat → Nat → Int64} {qo : Nat} {fJ : Nat → Int64} {cN sN : Nat} (hcN : cN + 10 ≤ 601024) (hsN : sN + 60 ≤ 7293033) {rx : Except String Int32} {sx : zS} {rm : Int32} {sm : zS} (hxx : fX11_count_0 fu (xs (i + 1)) g L = some (rx, sx)) (hE : ∀ E, rx = .error E → E = "java/util/NoSuchElementException") (hm : fX12_count fu (xs (i + 1)) gm Lm = some (rm, sm)) {H : Heap} {locs : List Loc} {ls : Array Slot} (hP : va_P G.1 vwCl (zw G MS 51 am gm Lm ++ (zw G (XS bx) 105 a g L ++ [(qo, .inl (G.2.2.2.2.1, 1, .inr (.inl fJ)))])) H) (hD : va_D A (zw G MS 51 am gm Lm ++ (zw G (XS bx) 105 a g L ++ [(qo, .inl (G.2.2.2.2.1, 1, .inr (.inl fJ)))]))) (hS : va_S A s.heap H locs) (hl : lv_has ls 8 [(0, .ref b), (1, .ref (a 0)), (2, .ref (am 0)), (3, .ref qo), (4, .int iv)]) (kk : ∀ (bx2 : Nat) (a2 : Nat → Nat) (fJ2 : Nat → Int64) (H1 : Heap) (locs1 : List Loc) (ls1 : Array Slot), va_P G.1 vwCl (zw G MS 51 am sm.1 sm.2 ++ (zw G (XS bx2) 105 a2 sx.1 sx.2 ++ [(qo, .inl (G.2.2.2.2.1, 1, .inr (.inl fJ2)))])) H1 → va_D A (zw G MS 51 am sm.1 sm.2 ++ (zw G (XS bx2) 105 a2 sx.1 sx.2 ++ [(qo, .inl (G.2.2.2.2.1, 1, .inr (.inl fJ2)))])) → va_S A s.heap H1 locs1 → lv_has ls1 8 [(0, .ref b), (1, .ref (a2 0)), (2, .ref (am 0)), (3, .ref qo), (4, .int iv)] → W p l e room_1 s m #[Value.ref b] below meth c H1 locs1 (cN + 10) (sN + 60) (lw_Z below #[Value.ref b] s) (F0 m 1511 ls1 [])) : W p l e room_1 s m #[Value.ref b] below meth c H locs cN sN (lw_Z below #[Value.ref b] s) (F0 m 326 ls []) := by
  obtain ⟨hx, hb, hr, -, -, -, hX, hbl, hlocks, -⟩ := id C0
  have hbA : ¬ A b := by rw [hA]; exact Nat.not_le.mpr hbl
  refine W.widen (k := cN + 0) (n := sN + 0) (Nat.le_refl _) (Nat.le_refl _) ?_
  refine lv_aload_n hx hb dL_law_326 rfl (lv_at hl 1 rfl) ?_
  refine lv_aload_n hx hb dL_law_327 rfl (lv_at hl 0 rfl) ?_
  refine lv_iload hx hb dL_law_328 (lv_at hl 4 rfl) ?_
  refine lv_iconst (v := 1) hx hb dL_law_330 (by decide) ?_
  refine lv_iadd hx hb dL_law_331 ?_
  refine l_sld (k := 1) hx hb hX hbl hbA hS hi (by decide) (l_lt hN rfl) hN2 dL_law_332 ?_
  refine lv_aload_n hx hb dL_law_333 rfl (lv_at hl 3 rfl) ?_
  have hP := swp_P hP
  have hD := swp_D hD
  refine a_callHi (wc := zw G (XS bx) 105 a g L ++ [(qo, .inl (G.2.2.2.2.1, 1, .inr (.inl fJ)))]) (wr := zw G MS 51 am gm Lm) (rest := []) li_L_123 C (wL_count l hst G H.size bx a fu g L (xs (i + 1)) qo fJ rx sx hxx hE) ⟨(Nat.le_of_ble_eq_true rfl), (Nat.le_of_ble_eq_true rfl), (show cN + 0 + 1 ≤ 601024 from l_le hcN rfl), (show sN + 0 + 6 ≤ 7293033 from l_le hsN rfl)⟩ hP hD hS rfl hl.1 rfl (Nat.le_of_ble_eq_true rfl) dL_law_334 (fun k_ u_ H locs hwx_ hP hD hS => ?_)
  have hP := swp_P hP
  have hD := swp_D hD
  refine W.widen (k := cN + 1) (n := sN + 6) (Nat.le_refl _) (Nat.le_refl _) ?_
  have hP : va_P G.1 vwCl (zw G MS 51 am gm Lm ++ (zw G (XS bx) 105 a sx.1 sx.2 ++ [(qo, .inl (G.2.2.2.2.1, 1, .inr (.inl u_)))])) H := hP
  have hD : va_D A (zw G MS 51 am gm Lm ++ (zw G (XS bx) 105 a sx.1 sx.2 ++ [(qo, .inl (G.2.2.2.2.1, 1, .inr (.inl u_)))])) := hD
  refine lv_istore (lv' := [(5, .int k_), (0, .ref b), (1, .ref (a 0)), (2, .ref (am 0)), (3, .ref qo), (4, .int iv)]) hx hb dL_law_337 hl (by decide) rfl (fun ls hl => ?_)
  refine lv_aload_n hx hb dL_law_339 rfl (lv_at hl 3 rfl) ?_
  refine lv_aload_n hx hb dL_law_340 rfl (lv_at hl 1 rfl) ?_
  refine lv_iload hx hb dL_law_341 (lv_at hl 5 rfl) ?_
  refine lv_iconst (v := 1) hx hb dL_law_343 (by decide) ?_
  refine lv_iadd hx hb dL_law_344 ?_
  refine l_sld (k := 1) hx hb hX hbl hbA hS hi (by decide) (l_lt hN rfl) hN2 dL_law_345 ?_
  refine a_callVi (wr := zw G (XS bx) 105 a sx.1 sx.2 ++ [(qo, .inl (G.2.2.2.2.1, 1, .inr (.inl u_)))]) (rest := []) li_L_125 C (rX12_count l G H.size am fu gm Lm (xs (i + 1)) rm sm hm) ⟨(Nat.le_of_ble_eq_true rfl), (Nat.le_of_ble_eq_true rfl), (show cN + 1 + 0 ≤ 601024 from l_le hcN rfl), (show sN + 6 + 0 ≤ 7293033 from l_le hsN rfl)⟩ hP hD hS 0 12 rfl (zat (by decide) ms_0) rfl hl.1 rfl (Nat.le_of_ble_eq_true rfl) dL_law_346 (fun r_ um_ H locs hw_ hP hD hS => ?_)
  obtain rfl : rm = r_ := (show r_ = rm from hw_).symm
  refine W.widen (k := cN + 1) (n := sN + 6) (Nat.le_refl _) (Nat.le_refl _) ?_
  have hP : va_P G.1 vwCl (zw G MS 51 am sm.1 sm.2 ++ (zw G (XS bx) 105 a sx.1 sx.2 ++ [(qo, .inl (G.2.2.2.2.1, 1, .inr (.inl u_)))])) H := hP
  have hD : va_D A (zw G MS 51 am sm.1 sm.2 ++ (zw G (XS bx) 105 a sx.1 sx.2 ++ [(qo, .inl (G.2.2.2.2.1, 1, .inr (.inl u_)))])) := hD
  refine lv_istore (lv' := [(6, .int rm), (5, .int k_), (0, .ref b), (1, .ref (a 0)), (2, .ref (am 0)), (3, .ref qo), (4, .int iv)]) hx hb dL_law_349 hl (by decide) rfl (fun ls hl => ?_)
  refine lv_goto (tgt := 1511) hx hb dL_law_351 (by decide) ?_
  refine W.widen (k := cN + 10) (n := sN + 60) (by omega) (by omega) ?_
  exact kk bx a u_ H locs ls hP hD hS (lv_sub hl [2, 3, 4, 5, 6] rfl)
set_option maxHeartbeats 4000000 in
set_option maxRecDepth 100000 in
theorem law_4 {p : Program} {e : Env} {s : State} {m : MethodId} {below : List Frame} {meth : Method} {c : Code} {l : Launch} (hst : l.stackTraces = false) {b N : Nat} {xs : Nat → Int32} {G : kG} {A : Nat → Prop} (hN2 : N ≤ 3072) (C0 : lw_At p s m meth c b N xs) (hA : A = fun q : Nat => s.heap.size ≤ q) (C : kC G p s m c cL_law 8 RL A) {i : Nat} {iv : Int32} (hi : iv.toInt = (i : Int)) (hN : i + 6 ≤ N) {bx : Nat} {a am : Nat → Nat} {fu : Nat} {g gm : Nat → Nat → Int32} {L Lm : Nat → Nat → Int64} {qo : Nat} {fJ : Nat → Int64} {cN sN : Nat} (hcN : cN + 10 ≤ 601024) (hsN : sN + 60 ≤ 7293033) {rx : Except String Int32} {sx : zS} {rm : Int32} {sm : zS} (hxx : fX11_lesson_0 fu (xs (i + 1)) (xs (i + 2)) g L = some (rx, sx)) (hE : ∀ E, rx = .error E → E = "java/util/NoSuchElementException") (hm : fX12_lesson fu (xs (i + 1)) (xs (i + 2)) gm Lm = some (rm, sm)) {H : Heap} {locs : List Loc} {ls : Array Slot} (hP : va_P G.1 vwCl (zw G MS 51 am gm Lm ++ (zw G (XS bx) 105 a g L ++ [(qo, .inl (G.2.2.2.2.1, 1, .inr (.inl fJ)))])) H) (hD : va_D A (zw G MS 51 am gm Lm ++ (zw G (XS bx) 105 a g L ++ [(qo, .inl (G.2.2.2.2.1, 1, .inr (.inl fJ)))]))) (hS : va_S A s.heap H locs) (hl : lv_has ls 8 [(0, .ref b), (1, .ref (a 0)), (2, .ref (am 0)), (3, .ref qo), (4, .int iv)]) (kk : ∀ (bx2 : Nat) (a2 : Nat → Nat) (fJ2 : Nat → Int64) (H1 : Heap) (locs1 : List Loc) (ls1 : Array Slot), va_P G.1 vwCl (zw G MS 51 am sm.1 sm.2 ++ (zw G (XS bx2) 105 a2 sx.1 sx.2 ++ [(qo, .inl (G.2.2.2.2.1, 1, .inr (.inl fJ2)))])) H1 → va_D A (zw G MS 51 am sm.1 sm.2 ++ (zw G (XS bx2) 105 a2 sx.1 sx.2 ++ [(qo, .inl (G.2.2.2.2.1, 1, .inr (.inl fJ2)))])) → va_S A s.heap H1 locs1 → lv_has ls1 8 [(0, .ref b), (1, .ref (a2 0)), (2, .ref (am 0)), (3, .ref qo), (4, .int iv)] → W p l e room_1 s m #[Value.ref b] below meth c H1 locs1 (cN + 10) (sN + 60) (lw_Z below #[Value.ref b] s) (F0 m 1511 ls1 [])) : W p l e room_1 s m #[Value.ref b] below meth c H locs cN sN (lw_Z below #[Value.ref b] s) (F0 m 354 ls []) := by
  obtain ⟨hx, hb, hr, -, -, -, hX, hbl, hlocks, -⟩ := id C0
  have hbA : ¬ A b := by rw [hA]; exact Nat.not_le.mpr hbl
  refine W.widen (k := cN + 0) (n := sN + 0) (Nat.le_refl _) (Nat.le_refl _) ?_
  refine lv_aload_n hx hb dL_law_354 rfl (lv_at hl 1 rfl) ?_
  refine lv_aload_n hx hb dL_law_355 rfl (lv_at hl 0 rfl) ?_
  refine lv_iload hx hb dL_law_356 (lv_at hl 4 rfl) ?_
  refine lv_iconst (v := 1) hx hb dL_law_358 (by decide) ?_
  refine lv_iadd hx hb dL_law_359 ?_
  refine l_sld (k := 1) hx hb hX hbl hbA hS hi (by decide) (l_lt hN rfl) hN2 dL_law_360 ?_
  refine lv_aload_n hx hb dL_law_361 rfl (lv_at hl 0 rfl) ?_
  refine lv_iload hx hb dL_law_362 (lv_at hl 4 rfl) ?_
  refine lv_iconst (v := 2) hx hb dL_law_364 (by decide) ?_
  refine lv_iadd hx hb dL_law_365 ?_
  refine l_sld (k := 2) hx hb hX hbl hbA hS hi (by decide) (l_lt hN rfl) hN2 dL_law_366 ?_
  refine lv_aload_n hx hb dL_law_367 rfl (lv_at hl 3 rfl) ?_
  have hP := swp_P hP
  have hD := swp_D hD
  refine a_callHi (wc := zw G (XS bx) 105 a g L ++ [(qo, .inl (G.2.2.2.2.1, 1, .inr (.inl fJ)))]) (wr := zw G MS 51 am gm Lm) (rest := []) li_L_126 C (wL_lesson l hst G H.size bx a fu g L (xs (i + 1)) (xs (i + 2)) qo fJ rx sx hxx hE) ⟨(Nat.le_of_ble_eq_true rfl), (Nat.le_of_ble_eq_true rfl), (show cN + 0 + 2 ≤ 601024 from l_le hcN rfl), (show sN + 0 + 12 ≤ 7293033 from l_le hsN rfl)⟩ hP hD hS rfl hl.1 rfl (Nat.le_of_ble_eq_true rfl) dL_law_368 (fun k_ u_ H locs hwx_ hP hD hS => ?_)
  have hP := swp_P hP
  have hD := swp_D hD
  refine W.widen (k := cN + 2) (n := sN + 12) (Nat.le_refl _) (Nat.le_refl _) ?_
  have hP : va_P G.1 vwCl (zw G MS 51 am gm Lm ++ (zw G (XS bx) 105 a sx.1 sx.2 ++ [(qo, .inl (G.2.2.2.2.1, 1, .inr (.inl u_)))])) H := hP
  have hD : va_D A (zw G MS 51 am gm Lm ++ (zw G (XS bx) 105 a sx.1 sx.2 ++ [(qo, .inl (G.2.2.2.2.1, 1, .inr (.inl u_)))])) := hD
  refine lv_istore (lv' := [(5, .int k_), (0, .ref b), (1, .ref (a 0)), (2, .ref (am 0)), (3, .ref qo), (4, .int iv)]) hx hb dL_law_371 hl (by decide) rfl (fun ls hl => ?_)
  refine lv_aload_n hx hb dL_law_373 rfl (lv_at hl 3 rfl) ?_
  refine lv_aload_n hx hb dL_law_374 rfl (lv_at hl 1 rfl) ?_
  refine lv_iload hx hb dL_law_375 (lv_at hl 5 rfl) ?_
  refine lv_iconst (v := 1) hx hb dL_law_377 (by decide) ?_
  refine lv_iadd hx hb dL_law_378 ?_
  refine l_sld (k := 1) hx hb hX hbl hbA hS hi (by decide) (l_lt hN rfl) hN2 dL_law_379 ?_
  refine lv_aload_n hx hb dL_law_380 rfl (lv_at hl 1 rfl) ?_
  refine lv_iload hx hb dL_law_381 (lv_at hl 5 rfl) ?_
  refine lv_iconst (v := 2) hx hb dL_law_383 (by decide) ?_
  refine lv_iadd hx hb dL_law_384 ?_
  refine l_sld (k := 2) hx hb hX hbl hbA hS hi (by decide) (l_lt hN rfl) hN2 dL_law_385 ?_
  refine a_callVi (wr := zw G (XS bx) 105 a sx.1 sx.2 ++ [(qo, .inl (G.2.2.2.2.1, 1, .inr (.inl u_)))]) (rest := []) li_L_129 C (rX12_lesson l G H.size am fu gm Lm (xs (i + 1)) (xs (i + 2)) rm sm hm) ⟨(Nat.le_of_ble_eq_true rfl), (Nat.le_of_ble_eq_true rfl), (show cN + 2 + 0 ≤ 601024 from l_le hcN rfl), (show sN + 12 + 0 ≤ 7293033 from l_le hsN rfl)⟩ hP hD hS 0 12 rfl (zat (by decide) ms_0) rfl hl.1 rfl (Nat.le_of_ble_eq_true rfl) dL_law_386 (fun r_ um_ H locs hw_ hP hD hS => ?_)
  obtain rfl : rm = r_ := (show r_ = rm from hw_).symm
  refine W.widen (k := cN + 2) (n := sN + 12) (Nat.le_refl _) (Nat.le_refl _) ?_
  have hP : va_P G.1 vwCl (zw G MS 51 am sm.1 sm.2 ++ (zw G (XS bx) 105 a sx.1 sx.2 ++ [(qo, .inl (G.2.2.2.2.1, 1, .inr (.inl u_)))])) H := hP
  have hD : va_D A (zw G MS 51 am sm.1 sm.2 ++ (zw G (XS bx) 105 a sx.1 sx.2 ++ [(qo, .inl (G.2.2.2.2.1, 1, .inr (.inl u_)))])) := hD
  refine lv_istore (lv' := [(6, .int rm), (5, .int k_), (0, .ref b), (1, .ref (a 0)), (2, .ref (am 0)), (3, .ref qo), (4, .int iv)]) hx hb dL_law_389 hl (by decide) rfl (fun ls hl => ?_)
  refine lv_goto (tgt := 1511) hx hb dL_law_391 (by decide) ?_
  refine W.widen (k := cN + 10) (n := sN + 60) (by omega) (by omega) ?_
  exact kk bx a u_ H locs ls hP hD hS (lv_sub hl [2, 3, 4, 5, 6] rfl)
set_option maxHeartbeats 4000000 in
set_option maxRecDepth 100000 in
theorem law_5 {p : Program} {e : Env} {s : State} {m : MethodId} {below : List Frame} {meth : Method} {c : Code} {l : Launch} (hst : l.stackTraces = false) {b N : Nat} {xs : Nat → Int32} {G : kG} {A : Nat → Prop} (hN2 : N ≤ 3072) (C0 : lw_At p s m meth c b N xs) (hA : A = fun q : Nat => s.heap.size ≤ q) (C : kC G p s m c cL_law 8 RL A) {i : Nat} {iv : Int32} (hi : iv.toInt = (i : Int)) (hN : i + 6 ≤ N) {bx : Nat} {a am : Nat → Nat} {fu : Nat} {g gm : Nat → Nat → Int32} {L Lm : Nat → Nat → Int64} {qo : Nat} {fJ : Nat → Int64} {cN sN : Nat} (hcN : cN + 10 ≤ 601024) (hsN : sN + 60 ≤ 7293033) {rx : Except String Int32} {sx : zS} {rm : Int32} {sm : zS} (hxx : fX11_day_0 fu (xs (i + 1)) (xs (i + 2)) g L = some (rx, sx)) (hE : ∀ E, rx = .error E → E = "java/util/NoSuchElementException") (hm : fX12_day fu (xs (i + 1)) (xs (i + 2)) gm Lm = some (rm, sm)) {H : Heap} {locs : List Loc} {ls : Array Slot} (hP : va_P G.1 vwCl (zw G MS 51 am gm Lm ++ (zw G (XS bx) 105 a g L ++ [(qo, .inl (G.2.2.2.2.1, 1, .inr (.inl fJ)))])) H) (hD : va_D A (zw G MS 51 am gm Lm ++ (zw G (XS bx) 105 a g L ++ [(qo, .inl (G.2.2.2.2.1, 1, .inr (.inl fJ)))]))) (hS : va_S A s.heap H locs) (hl : lv_has ls 8 [(0, .ref b), (1, .ref (a 0)), (2, .ref (am 0)), (3, .ref qo), (4, .int iv)]) (kk : ∀ (bx2 : Nat) (a2 : Nat → Nat) (fJ2 : Nat → Int64) (H1 : Heap) (locs1 : List Loc) (ls1 : Array Slot), va_P G.1 vwCl (zw G MS 51 am sm.1 sm.2 ++ (zw G (XS bx2) 105 a2 sx.1 sx.2 ++ [(qo, .inl (G.2.2.2.2.1, 1, .inr (.inl fJ2)))])) H1 → va_D A (zw G MS 51 am sm.1 sm.2 ++ (zw G (XS bx2) 105 a2 sx.1 sx.2 ++ [(qo, .inl (G.2.2.2.2.1, 1, .inr (.inl fJ2)))])) → va_S A s.heap H1 locs1 → lv_has ls1 8 [(0, .ref b), (1, .ref (a2 0)), (2, .ref (am 0)), (3, .ref qo), (4, .int iv)] → W p l e room_1 s m #[Value.ref b] below meth c H1 locs1 (cN + 10) (sN + 60) (lw_Z below #[Value.ref b] s) (F0 m 1511 ls1 [])) : W p l e room_1 s m #[Value.ref b] below meth c H locs cN sN (lw_Z below #[Value.ref b] s) (F0 m 394 ls []) := by
  obtain ⟨hx, hb, hr, -, -, -, hX, hbl, hlocks, -⟩ := id C0
  have hbA : ¬ A b := by rw [hA]; exact Nat.not_le.mpr hbl
  refine W.widen (k := cN + 0) (n := sN + 0) (Nat.le_refl _) (Nat.le_refl _) ?_
  refine lv_aload_n hx hb dL_law_394 rfl (lv_at hl 1 rfl) ?_
  refine lv_aload_n hx hb dL_law_395 rfl (lv_at hl 0 rfl) ?_
  refine lv_iload hx hb dL_law_396 (lv_at hl 4 rfl) ?_
  refine lv_iconst (v := 1) hx hb dL_law_398 (by decide) ?_
  refine lv_iadd hx hb dL_law_399 ?_
  refine l_sld (k := 1) hx hb hX hbl hbA hS hi (by decide) (l_lt hN rfl) hN2 dL_law_400 ?_
  refine lv_aload_n hx hb dL_law_401 rfl (lv_at hl 0 rfl) ?_
  refine lv_iload hx hb dL_law_402 (lv_at hl 4 rfl) ?_
  refine lv_iconst (v := 2) hx hb dL_law_404 (by decide) ?_
  refine lv_iadd hx hb dL_law_405 ?_
  refine l_sld (k := 2) hx hb hX hbl hbA hS hi (by decide) (l_lt hN rfl) hN2 dL_law_406 ?_
  refine lv_aload_n hx hb dL_law_407 rfl (lv_at hl 3 rfl) ?_
  have hP := swp_P hP
  have hD := swp_D hD
  refine a_callHi (wc := zw G (XS bx) 105 a g L ++ [(qo, .inl (G.2.2.2.2.1, 1, .inr (.inl fJ)))]) (wr := zw G MS 51 am gm Lm) (rest := []) li_L_130 C (wL_day l hst G H.size bx a fu g L (xs (i + 1)) (xs (i + 2)) qo fJ rx sx hxx hE) ⟨(Nat.le_of_ble_eq_true rfl), (Nat.le_of_ble_eq_true rfl), (show cN + 0 + 2 ≤ 601024 from l_le hcN rfl), (show sN + 0 + 12 ≤ 7293033 from l_le hsN rfl)⟩ hP hD hS rfl hl.1 rfl (Nat.le_of_ble_eq_true rfl) dL_law_408 (fun k_ u_ H locs hwx_ hP hD hS => ?_)
  have hP := swp_P hP
  have hD := swp_D hD
  refine W.widen (k := cN + 2) (n := sN + 12) (Nat.le_refl _) (Nat.le_refl _) ?_
  have hP : va_P G.1 vwCl (zw G MS 51 am gm Lm ++ (zw G (XS bx) 105 a sx.1 sx.2 ++ [(qo, .inl (G.2.2.2.2.1, 1, .inr (.inl u_)))])) H := hP
  have hD : va_D A (zw G MS 51 am gm Lm ++ (zw G (XS bx) 105 a sx.1 sx.2 ++ [(qo, .inl (G.2.2.2.2.1, 1, .inr (.inl u_)))])) := hD
  refine lv_istore (lv' := [(5, .int k_), (0, .ref b), (1, .ref (a 0)), (2, .ref (am 0)), (3, .ref qo), (4, .int iv)]) hx hb dL_law_411 hl (by decide) rfl (fun ls hl => ?_)
  refine lv_aload_n hx hb dL_law_413 rfl (lv_at hl 3 rfl) ?_
  refine lv_aload_n hx hb dL_law_414 rfl (lv_at hl 1 rfl) ?_
  refine lv_iload hx hb dL_law_415 (lv_at hl 5 rfl) ?_
  refine lv_iconst (v := 1) hx hb dL_law_417 (by decide) ?_
  refine lv_iadd hx hb dL_law_418 ?_
  refine l_sld (k := 1) hx hb hX hbl hbA hS hi (by decide) (l_lt hN rfl) hN2 dL_law_419 ?_
  refine lv_aload_n hx hb dL_law_420 rfl (lv_at hl 1 rfl) ?_
  refine lv_iload hx hb dL_law_421 (lv_at hl 5 rfl) ?_
  refine lv_iconst (v := 2) hx hb dL_law_423 (by decide) ?_
  refine lv_iadd hx hb dL_law_424 ?_
  refine l_sld (k := 2) hx hb hX hbl hbA hS hi (by decide) (l_lt hN rfl) hN2 dL_law_425 ?_
  refine a_callVi (wr := zw G (XS bx) 105 a sx.1 sx.2 ++ [(qo, .inl (G.2.2.2.2.1, 1, .inr (.inl u_)))]) (rest := []) li_L_132 C (rX12_day l G H.size am fu gm Lm (xs (i + 1)) (xs (i + 2)) rm sm hm) ⟨(Nat.le_of_ble_eq_true rfl), (Nat.le_of_ble_eq_true rfl), (show cN + 2 + 0 ≤ 601024 from l_le hcN rfl), (show sN + 12 + 0 ≤ 7293033 from l_le hsN rfl)⟩ hP hD hS 0 12 rfl (zat (by decide) ms_0) rfl hl.1 rfl (Nat.le_of_ble_eq_true rfl) dL_law_426 (fun r_ um_ H locs hw_ hP hD hS => ?_)
  obtain rfl : rm = r_ := (show r_ = rm from hw_).symm
  refine W.widen (k := cN + 2) (n := sN + 12) (Nat.le_refl _) (Nat.le_refl _) ?_
  have hP : va_P G.1 vwCl (zw G MS 51 am sm.1 sm.2 ++ (zw G (XS bx) 105 a sx.1 sx.2 ++ [(qo, .inl (G.2.2.2.2.1, 1, .inr (.inl u_)))])) H := hP
  have hD : va_D A (zw G MS 51 am sm.1 sm.2 ++ (zw G (XS bx) 105 a sx.1 sx.2 ++ [(qo, .inl (G.2.2.2.2.1, 1, .inr (.inl u_)))])) := hD
  refine lv_istore (lv' := [(6, .int rm), (5, .int k_), (0, .ref b), (1, .ref (a 0)), (2, .ref (am 0)), (3, .ref qo), (4, .int iv)]) hx hb dL_law_429 hl (by decide) rfl (fun ls hl => ?_)
  refine lv_goto (tgt := 1511) hx hb dL_law_431 (by decide) ?_
  refine W.widen (k := cN + 10) (n := sN + 60) (by omega) (by omega) ?_
  exact kk bx a u_ H locs ls hP hD hS (lv_sub hl [2, 3, 4, 5, 6] rfl)
set_option maxHeartbeats 4000000 in
set_option maxRecDepth 100000 in
theorem law_6 {p : Program} {e : Env} {s : State} {m : MethodId} {below : List Frame} {meth : Method} {c : Code} {l : Launch} (hst : l.stackTraces = false) {b N : Nat} {xs : Nat → Int32} {G : kG} {A : Nat → Prop} (hN2 : N ≤ 3072) (C0 : lw_At p s m meth c b N xs) (hA : A = fun q : Nat => s.heap.size ≤ q) (C : kC G p s m c cL_law 8 RL A) {i : Nat} {iv : Int32} (hi : iv.toInt = (i : Int)) (hN : i + 6 ≤ N) {bx : Nat} {a am : Nat → Nat} {fu : Nat} {g gm : Nat → Nat → Int32} {L Lm : Nat → Nat → Int64} {qo : Nat} {fJ : Nat → Int64} {cN sN : Nat} (hcN : cN + 10 ≤ 601024) (hsN : sN + 60 ≤ 7293033) {rx : Except String Int32} {sx : zS} {rm : Int32} {sm : zS} (hxx : fX11_chain_0 fu (xs (i + 1)) (xs (i + 2)) g L = some (rx, sx)) (hE : ∀ E, rx = .error E → E = "java/util/NoSuchElementException") (hm : fX12_chain fu (xs (i + 1)) (xs (i + 2)) gm Lm = some (rm, sm)) {H : Heap} {locs : List Loc} {ls : Array Slot} (hP : va_P G.1 vwCl (zw G MS 51 am gm Lm ++ (zw G (XS bx) 105 a g L ++ [(qo, .inl (G.2.2.2.2.1, 1, .inr (.inl fJ)))])) H) (hD : va_D A (zw G MS 51 am gm Lm ++ (zw G (XS bx) 105 a g L ++ [(qo, .inl (G.2.2.2.2.1, 1, .inr (.inl fJ)))]))) (hS : va_S A s.heap H locs) (hl : lv_has ls 8 [(0, .ref b), (1, .ref (a 0)), (2, .ref (am 0)), (3, .ref qo), (4, .int iv)]) (kk : ∀ (bx2 : Nat) (a2 : Nat → Nat) (fJ2 : Nat → Int64) (H1 : Heap) (locs1 : List Loc) (ls1 : Array Slot), va_P G.1 vwCl (zw G MS 51 am sm.1 sm.2 ++ (zw G (XS bx2) 105 a2 sx.1 sx.2 ++ [(qo, .inl (G.2.2.2.2.1, 1, .inr (.inl fJ2)))])) H1 → va_D A (zw G MS 51 am sm.1 sm.2 ++ (zw G (XS bx2) 105 a2 sx.1 sx.2 ++ [(qo, .inl (G.2.2.2.2.1, 1, .inr (.inl fJ2)))])) → va_S A s.heap H1 locs1 → lv_has ls1 8 [(0, .ref b), (1, .ref (a2 0)), (2, .ref (am 0)), (3, .ref qo), (4, .int iv)] → W p l e room_1 s m #[Value.ref b] below meth c H1 locs1 (cN + 10) (sN + 60) (lw_Z below #[Value.ref b] s) (F0 m 1511 ls1 [])) : W p l e room_1 s m #[Value.ref b] below meth c H locs cN sN (lw_Z below #[Value.ref b] s) (F0 m 434 ls []) := by
  obtain ⟨hx, hb, hr, -, -, -, hX, hbl, hlocks, -⟩ := id C0
  have hbA : ¬ A b := by rw [hA]; exact Nat.not_le.mpr hbl
  refine W.widen (k := cN + 0) (n := sN + 0) (Nat.le_refl _) (Nat.le_refl _) ?_
  refine lv_aload_n hx hb dL_law_434 rfl (lv_at hl 1 rfl) ?_
  refine lv_aload_n hx hb dL_law_435 rfl (lv_at hl 0 rfl) ?_
  refine lv_iload hx hb dL_law_436 (lv_at hl 4 rfl) ?_
  refine lv_iconst (v := 1) hx hb dL_law_438 (by decide) ?_
  refine lv_iadd hx hb dL_law_439 ?_
  refine l_sld (k := 1) hx hb hX hbl hbA hS hi (by decide) (l_lt hN rfl) hN2 dL_law_440 ?_
  refine lv_aload_n hx hb dL_law_441 rfl (lv_at hl 0 rfl) ?_
  refine lv_iload hx hb dL_law_442 (lv_at hl 4 rfl) ?_
  refine lv_iconst (v := 2) hx hb dL_law_444 (by decide) ?_
  refine lv_iadd hx hb dL_law_445 ?_
  refine l_sld (k := 2) hx hb hX hbl hbA hS hi (by decide) (l_lt hN rfl) hN2 dL_law_446 ?_
  refine lv_aload_n hx hb dL_law_447 rfl (lv_at hl 3 rfl) ?_
  have hP := swp_P hP
  have hD := swp_D hD
  refine a_callHi (wc := zw G (XS bx) 105 a g L ++ [(qo, .inl (G.2.2.2.2.1, 1, .inr (.inl fJ)))]) (wr := zw G MS 51 am gm Lm) (rest := []) li_L_133 C (wL_chain l hst G H.size bx a fu g L (xs (i + 1)) (xs (i + 2)) qo fJ rx sx hxx hE) ⟨(Nat.le_of_ble_eq_true rfl), (Nat.le_of_ble_eq_true rfl), (show cN + 0 + 2 ≤ 601024 from l_le hcN rfl), (show sN + 0 + 12 ≤ 7293033 from l_le hsN rfl)⟩ hP hD hS rfl hl.1 rfl (Nat.le_of_ble_eq_true rfl) dL_law_448 (fun k_ u_ H locs hwx_ hP hD hS => ?_)
  have hP := swp_P hP
  have hD := swp_D hD
  refine W.widen (k := cN + 2) (n := sN + 12) (Nat.le_refl _) (Nat.le_refl _) ?_
  have hP : va_P G.1 vwCl (zw G MS 51 am gm Lm ++ (zw G (XS bx) 105 a sx.1 sx.2 ++ [(qo, .inl (G.2.2.2.2.1, 1, .inr (.inl u_)))])) H := hP
  have hD : va_D A (zw G MS 51 am gm Lm ++ (zw G (XS bx) 105 a sx.1 sx.2 ++ [(qo, .inl (G.2.2.2.2.1, 1, .inr (.inl u_)))])) := hD
  refine lv_istore (lv' := [(5, .int k_), (0, .ref b), (1, .ref (a 0)), (2, .ref (am 0)), (3, .ref qo), (4, .int iv)]) hx hb dL_law_451 hl (by decide) rfl (fun ls hl => ?_)
  refine lv_aload_n hx hb dL_law_453 rfl (lv_at hl 3 rfl) ?_
  refine lv_aload_n hx hb dL_law_454 rfl (lv_at hl 1 rfl) ?_
  refine lv_iload hx hb dL_law_455 (lv_at hl 5 rfl) ?_
  refine lv_iconst (v := 1) hx hb dL_law_457 (by decide) ?_
  refine lv_iadd hx hb dL_law_458 ?_
  refine l_sld (k := 1) hx hb hX hbl hbA hS hi (by decide) (l_lt hN rfl) hN2 dL_law_459 ?_
  refine lv_aload_n hx hb dL_law_460 rfl (lv_at hl 1 rfl) ?_
  refine lv_iload hx hb dL_law_461 (lv_at hl 5 rfl) ?_
  refine lv_iconst (v := 2) hx hb dL_law_463 (by decide) ?_
  refine lv_iadd hx hb dL_law_464 ?_
  refine l_sld (k := 2) hx hb hX hbl hbA hS hi (by decide) (l_lt hN rfl) hN2 dL_law_465 ?_
  refine a_callVi (wr := zw G (XS bx) 105 a sx.1 sx.2 ++ [(qo, .inl (G.2.2.2.2.1, 1, .inr (.inl u_)))]) (rest := []) li_L_135 C (rX12_chain l G H.size am fu gm Lm (xs (i + 1)) (xs (i + 2)) rm sm hm) ⟨(Nat.le_of_ble_eq_true rfl), (Nat.le_of_ble_eq_true rfl), (show cN + 2 + 0 ≤ 601024 from l_le hcN rfl), (show sN + 12 + 0 ≤ 7293033 from l_le hsN rfl)⟩ hP hD hS 0 12 rfl (zat (by decide) ms_0) rfl hl.1 rfl (Nat.le_of_ble_eq_true rfl) dL_law_466 (fun r_ um_ H locs hw_ hP hD hS => ?_)
  obtain rfl : rm = r_ := (show r_ = rm from hw_).symm
  refine W.widen (k := cN + 2) (n := sN + 12) (Nat.le_refl _) (Nat.le_refl _) ?_
  have hP : va_P G.1 vwCl (zw G MS 51 am sm.1 sm.2 ++ (zw G (XS bx) 105 a sx.1 sx.2 ++ [(qo, .inl (G.2.2.2.2.1, 1, .inr (.inl u_)))])) H := hP
  have hD : va_D A (zw G MS 51 am sm.1 sm.2 ++ (zw G (XS bx) 105 a sx.1 sx.2 ++ [(qo, .inl (G.2.2.2.2.1, 1, .inr (.inl u_)))])) := hD
  refine lv_istore (lv' := [(6, .int rm), (5, .int k_), (0, .ref b), (1, .ref (a 0)), (2, .ref (am 0)), (3, .ref qo), (4, .int iv)]) hx hb dL_law_469 hl (by decide) rfl (fun ls hl => ?_)
  refine lv_goto (tgt := 1511) hx hb dL_law_471 (by decide) ?_
  refine W.widen (k := cN + 10) (n := sN + 60) (by omega) (by omega) ?_
  exact kk bx a u_ H locs ls hP hD hS (lv_sub hl [2, 3, 4, 5, 6] rfl)
set_option maxHeartbeats 4000000 in
set_option maxRecDepth 100000 in
theorem law_7 {p : Program} {e : Env} {s : State} {m : MethodId} {below : List Frame} {meth : Method} {c : Code} {l : Launch} (hst : l.stackTraces = false) {b N : Nat} {xs : Nat → Int32} {G : kG} {A : Nat → Prop} (hN2 : N ≤ 3072) (C0 : lw_At p s m meth c b N xs) (hA : A = fun q : Nat => s.heap.size ≤ q) (C : kC G p s m c cL_law 8 RL A) {i : Nat} {iv : Int32} (hi : iv.toInt = (i : Int)) (hN : i + 6 ≤ N) {bx : Nat} {a am : Nat → Nat} {fu : Nat} {g gm : Nat → Nat → Int32} {L Lm : Nat → Nat → Int64} {qo : Nat} {fJ : Nat → Int64} {cN sN : Nat} (hcN : cN + 10 ≤ 601024) (hsN : sN + 60 ≤ 7293033) {rx : Except String Int32} {sx : zS} {rm : Int32} {sm : zS} (hxx : fX11_become_0 fu (xs (i + 1)) (xs (i + 2)) (xs (i + 3)) g L = some (rx, sx)) (hE : ∀ E, rx = .error E → E = "java/util/NoSuchElementException") (hm : fX12_become fu (xs (i + 1)) (xs (i + 2)) (xs (i + 3)) gm Lm = some (rm, sm)) {H : Heap} {locs : List Loc} {ls : Array Slot} (hP : va_P G.1 vwCl (zw G MS 51 am gm Lm ++ (zw G (XS bx) 105 a g L ++ [(qo, .inl (G.2.2.2.2.1, 1, .inr (.inl fJ)))])) H) (hD : va_D A (zw G MS 51 am gm Lm ++ (zw G (XS bx) 105 a g L ++ [(qo, .inl (G.2.2.2.2.1, 1, .inr (.inl fJ)))]))) (hS : va_S A s.heap H locs) (hl : lv_has ls 8 [(0, .ref b), (1, .ref (a 0)), (2, .ref (am 0)), (3, .ref qo), (4, .int iv)]) (kk : ∀ (bx2 : Nat) (a2 : Nat → Nat) (fJ2 : Nat → Int64) (H1 : Heap) (locs1 : List Loc) (ls1 : Array Slot), va_P G.1 vwCl (zw G MS 51 am sm.1 sm.2 ++ (zw G (XS bx2) 105 a2 sx.1 sx.2 ++ [(qo, .inl (G.2.2.2.2.1, 1, .inr (.inl fJ2)))])) H1 → va_D A (zw G MS 51 am sm.1 sm.2 ++ (zw G (XS bx2) 105 a2 sx.1 sx.2 ++ [(qo, .inl (G.2.2.2.2.1, 1, .inr (.inl fJ2)))])) → va_S A s.heap H1 locs1 → lv_has ls1 8 [(0, .ref b), (1, .ref (a2 0)), (2, .ref (am 0)), (3, .ref qo), (4, .int iv)] → W p l e room_1 s m #[Value.ref b] below meth c H1 locs1 (cN + 10) (sN + 60) (lw_Z below #[Value.ref b] s) (F0 m 1511 ls1 [])) : W p l e room_1 s m #[Value.ref b] below meth c H locs cN sN (lw_Z below #[Value.ref b] s) (F0 m 474 ls []) := by
  obtain ⟨hx, hb, hr, -, -, -, hX, hbl, hlocks, -⟩ := id C0
  have hbA : ¬ A b := by rw [hA]; exact Nat.not_le.mpr hbl
  refine W.widen (k := cN + 0) (n := sN + 0) (Nat.le_refl _) (Nat.le_refl _) ?_
  refine lv_aload_n hx hb dL_law_474 rfl (lv_at hl 1 rfl) ?_
  refine lv_aload_n hx hb dL_law_475 rfl (lv_at hl 0 rfl) ?_
  refine lv_iload hx hb dL_law_476 (lv_at hl 4 rfl) ?_
  refine lv_iconst (v := 1) hx hb dL_law_478 (by decide) ?_
  refine lv_iadd hx hb dL_law_479 ?_
  refine l_sld (k := 1) hx hb hX hbl hbA hS hi (by decide) (l_lt hN rfl) hN2 dL_law_480 ?_
  refine lv_aload_n hx hb dL_law_481 rfl (lv_at hl 0 rfl) ?_
  refine lv_iload hx hb dL_law_482 (lv_at hl 4 rfl) ?_
  refine lv_iconst (v := 2) hx hb dL_law_484 (by decide) ?_
  refine lv_iadd hx hb dL_law_485 ?_
  refine l_sld (k := 2) hx hb hX hbl hbA hS hi (by decide) (l_lt hN rfl) hN2 dL_law_486 ?_
  refine lv_aload_n hx hb dL_law_487 rfl (lv_at hl 0 rfl) ?_
  refine lv_iload hx hb dL_law_488 (lv_at hl 4 rfl) ?_
  refine lv_iconst (v := 3) hx hb dL_law_490 (by decide) ?_
  refine lv_iadd hx hb dL_law_491 ?_
  refine l_sld (k := 3) hx hb hX hbl hbA hS hi (by decide) (l_lt hN rfl) hN2 dL_law_492 ?_
  refine lv_aload_n hx hb dL_law_493 rfl (lv_at hl 3 rfl) ?_
  have hP := swp_P hP
  have hD := swp_D hD
  refine a_callHi (wc := zw G (XS bx) 105 a g L ++ [(qo, .inl (G.2.2.2.2.1, 1, .inr (.inl fJ)))]) (wr := zw G MS 51 am gm Lm) (rest := []) li_L_136 C (wL_become l hst G H.size bx a fu g L (xs (i + 1)) (xs (i + 2)) (xs (i + 3)) qo fJ rx sx hxx hE) ⟨(Nat.le_of_ble_eq_true rfl), (Nat.le_of_ble_eq_true rfl), (show cN + 0 + 2 ≤ 601024 from l_le hcN rfl), (show sN + 0 + 12 ≤ 7293033 from l_le hsN rfl)⟩ hP hD hS rfl hl.1 rfl (Nat.le_of_ble_eq_true rfl) dL_law_494 (fun k_ u_ H locs hwx_ hP hD hS => ?_)
  have hP := swp_P hP
  have hD := swp_D hD
  refine W.widen (k := cN + 2) (n := sN + 12) (Nat.le_refl _) (Nat.le_refl _) ?_
  have hP : va_P G.1 vwCl (zw G MS 51 am gm Lm ++ (zw G (XS bx) 105 a sx.1 sx.2 ++ [(qo, .inl (G.2.2.2.2.1, 1, .inr (.inl u_)))])) H := hP
  have hD : va_D A (zw G MS 51 am gm Lm ++ (zw G (XS bx) 105 a sx.1 sx.2 ++ [(qo, .inl (G.2.2.2.2.1, 1, .inr (.inl u_)))])) := hD
  refine lv_istore (lv' := [(5, .int k_), (0, .ref b), (1, .ref (a 0)), (2, .ref (am 0)), (3, .ref qo), (4, .int iv)]) hx hb dL_law_497 hl (by decide) rfl (fun ls hl => ?_)
  refine lv_aload_n hx hb dL_law_499 rfl (lv_at hl 3 rfl) ?_
  refine lv_aload_n hx hb dL_law_500 rfl (lv_at hl 1 rfl) ?_
  refine lv_iload hx hb dL_law_501 (lv_at hl 5 rfl) ?_
  refine lv_iconst (v := 1) hx hb dL_law_503 (by decide) ?_
  refine lv_iadd hx hb dL_law_504 ?_
  refine l_sld (k := 1) hx hb hX hbl hbA hS hi (by decide) (l_lt hN rfl) hN2 dL_law_505 ?_
  refine lv_aload_n hx hb dL_law_506 rfl (lv_at hl 1 rfl) ?_
  refine lv_iload hx hb dL_law_507 (lv_at hl 5 rfl) ?_
  refine lv_iconst (v := 2) hx hb dL_law_509 (by decide) ?_
  refine lv_iadd hx hb dL_law_510 ?_
  refine l_sld (k := 2) hx hb hX hbl hbA hS hi (by decide) (l_lt hN rfl) hN2 dL_law_511 ?_
  refine lv_aload_n hx hb dL_law_512 rfl (lv_at hl 1 rfl) ?_
  refine lv_iload hx hb dL_law_513 (lv_at hl 5 rfl) ?_
  refine lv_iconst (v := 3) hx hb dL_law_515 (by decide) ?_
  refine lv_iadd hx hb dL_law_516 ?_
  refine l_sld (k := 3) hx hb hX hbl hbA hS hi (by decide) (l_lt hN rfl) hN2 dL_law_517 ?_
  refine a_callVi (wr := zw G (XS bx) 105 a sx.1 sx.2 ++ [(qo, .inl (G.2.2.2.2.1, 1, .inr (.inl u_)))]) (rest := []) li_L_139 C (rX12_become l G H.size am fu gm Lm (xs (i + 1)) (xs (i + 2)) (xs (i + 3)) rm sm hm) ⟨(Nat.le_of_ble_eq_true rfl), (Nat.le_of_ble_eq_true rfl), (show cN + 2 + 0 ≤ 601024 from l_le hcN rfl), (show sN + 12 + 0 ≤ 7293033 from l_le hsN rfl)⟩ hP hD hS 0 12 rfl (zat (by decide) ms_0) rfl hl.1 rfl (Nat.le_of_ble_eq_true rfl) dL_law_518 (fun r_ um_ H locs hw_ hP hD hS => ?_)
  obtain rfl : rm = r_ := (show r_ = rm from hw_).symm
  refine W.widen (k := cN + 2) (n := sN + 12) (Nat.le_refl _) (Nat.le_refl _) ?_
  have hP : va_P G.1 vwCl (zw G MS 51 am sm.1 sm.2 ++ (zw G (XS bx) 105 a sx.1 sx.2 ++ [(qo, .inl (G.2.2.2.2.1, 1, .inr (.inl u_)))])) H := hP
  have hD : va_D A (zw G MS 51 am sm.1 sm.2 ++ (zw G (XS bx) 105 a sx.1 sx.2 ++ [(qo, .inl (G.2.2.2.2.1, 1, .inr (.inl u_)))])) := hD
  refine lv_istore (lv' := [(6, .int rm), (5, .int k_), (0, .ref b), (1, .ref (a 0)), (2, .ref (am 0)), (3, .ref qo), (4, .int iv)]) hx hb dL_law_521 hl (by decide) rfl (fun ls hl => ?_)
  refine lv_goto (tgt := 1511) hx hb dL_law_523 (by decide) ?_
  refine W.widen (k := cN + 10) (n := sN + 60) (by omega) (by omega) ?_
  exact kk bx a u_ H locs ls hP hD hS (lv_sub hl [2, 3, 4, 5, 6] rfl)
set_option maxHeartbeats 4000000 in
set_option maxRecDepth 100000 in
theorem law_8 {p : Program} {e : Env} {s : State} {m : MethodId} {below : List Frame} {meth : Method} {c : Code} {l : Launch} (hst : l.stackTraces = false) {b N : Nat} {xs : Nat → Int32} {G : kG} {A : Nat → Prop} (hN2 : N ≤ 3072) (C0 : lw_At p s m meth c b N xs) (hA : A = fun q : Nat => s.heap.size ≤ q) (C : kC G p s m c cL_law 8 RL A) {i : Nat} {iv : Int32} (hi : iv.toInt = (i : Int)) (hN : i + 6 ≤ N) {bx : Nat} {a am : Nat → Nat} {fu : Nat} {g gm : Nat → Nat → Int32} {L Lm : Nat → Nat → Int64} {qo : Nat} {fJ : Nat → Int64} {cN sN : Nat} (hcN : cN + 10 ≤ 601024) (hsN : sN + 60 ≤ 7293033) {rx : Int32} {sx : zS} {rm : Int32} {sm : zS} (hxx : fX11_obey_0 fu (xs (i + 1)) g L = some (rx, sx)) (hm : fX12_obey fu (xs (i + 1)) gm Lm = some (rm, sm)) {H : Heap} {locs : List Loc} {ls : Array Slot} (hP : va_P G.1 vwCl (zw G MS 51 am gm Lm ++ (zw G (XS bx) 105 a g L ++ [(qo, .inl (G.2.2.2.2.1, 1, .inr (.inl fJ)))])) H) (hD : va_D A (zw G MS 51 am gm Lm ++ (zw G (XS bx) 105 a g L ++ [(qo, .inl (G.2.2.2.2.1, 1, .inr (.inl fJ)))]))) (hS : va_S A s.heap H locs) (hl : lv_has ls 8 [(0, .ref b), (1, .ref (a 0)), (2, .ref (am 0)), (3, .ref qo), (4, .int iv)]) (kk : ∀ (bx2 : Nat) (a2 : Nat → Nat) (fJ2 : Nat → Int64) (H1 : Heap) (locs1 : List Loc) (ls1 : Array Slot), va_P G.1 vwCl (zw G MS 51 am sm.1 sm.2 ++ (zw G (XS bx2) 105 a2 sx.1 sx.2 ++ [(qo, .inl (G.2.2.2.2.1, 1, .inr (.inl fJ2)))])) H1 → va_D A (zw G MS 51 am sm.1 sm.2 ++ (zw G (XS bx2) 105 a2 sx.1 sx.2 ++ [(qo, .inl (G.2.2.2.2.1, 1, .inr (.inl fJ2)))])) → va_S A s.heap H1 locs1 → lv_has ls1 8 [(0, .ref b), (1, .ref (a2 0)), (2, .ref (am 0)), (3, .ref qo), (4, .int iv)] → W p l e room_1 s m #[Value.ref b] below meth c H1 locs1 (cN + 10) (sN + 60) (lw_Z below #[Value.ref b] s) (F0 m 1511 ls1 [])) : W p l e room_1 s m #[Value.ref b] below meth c H locs cN sN (lw_Z below #[Value.ref b] s) (F0 m 526 ls []) := by
  obtain ⟨hx, hb, hr, -, -, -, hX, hbl, hlocks, -⟩ := id C0
  have hbA : ¬ A b := by rw [hA]; exact Nat.not_le.mpr hbl
  refine W.widen (k := cN + 0) (n := sN + 0) (Nat.le_refl _) (Nat.le_refl _) ?_
  refine lv_aload_n hx hb dL_law_526 rfl (lv_at hl 1 rfl) ?_
  refine lv_aload_n hx hb dL_law_527 rfl (lv_at hl 0 rfl) ?_
  refine lv_iload hx hb dL_law_528 (lv_at hl 4 rfl) ?_
  refine lv_iconst (v := 1) hx hb dL_law_530 (by decide) ?_
  refine lv_iadd hx hb dL_law_531 ?_
  refine l_sld (k := 1) hx hb hX hbl hbA hS hi (by decide) (l_lt hN rfl) hN2 dL_law_532 ?_
  have hP := swp_P hP
  have hD := swp_D hD
  rw [List.append_assoc] at hP hD
  refine a_callVi (wr := [(qo, .inl (G.2.2.2.2.1, 1, .inr (.inl fJ)))] ++ zw G MS 51 am gm Lm) (rest := []) li_L_140 C (rX11_obey_0 l G H.size bx a fu g L (xs (i + 1)) rx sx hxx) ⟨(Nat.le_of_ble_eq_true rfl), (Nat.le_of_ble_eq_true rfl), (show cN + 0 + 0 ≤ 601024 from l_le hcN rfl), (show sN + 0 + 0 ≤ 7293033 from l_le hsN rfl)⟩ hP hD hS 0 11 rfl (zat (by decide) xs_0) rfl hl.1 rfl (Nat.le_of_ble_eq_true rfl) dL_law_533 (fun r_ u_ H locs hw_ hP hD hS => ?_)
  rw [← List.append_assoc] at hP hD
  have hP := swp_P hP
  have hD := swp_D hD
  obtain rfl : rx = r_ := (show r_ = rx from hw_).symm
  refine W.widen (k := cN + 0) (n := sN + 0) (Nat.le_refl _) (Nat.le_refl _) ?_
  have hP : va_P G.1 vwCl (zw G MS 51 am gm Lm ++ (zw G (XS bx) 105 a sx.1 sx.2 ++ [(qo, .inl (G.2.2.2.2.1, 1, .inr (.inl fJ)))])) H := hP
  have hD : va_D A (zw G MS 51 am gm Lm ++ (zw G (XS bx) 105 a sx.1 sx.2 ++ [(qo, .inl (G.2.2.2.2.1, 1, .inr (.inl fJ)))])) := hD
  refine lv_pop hx hb dL_law_536 rfl ?_
  refine lv_aload_n hx hb dL_law_537 rfl (lv_at hl 2 rfl) ?_
  refine lv_aload_n hx hb dL_law_538 rfl (lv_at hl 0 rfl) ?_
  refine lv_iload hx hb dL_law_539 (lv_at hl 4 rfl) ?_
  refine lv_iconst (v := 1) hx hb dL_law_541 (by decide) ?_
  refine lv_iadd hx hb dL_law_542 ?_
  refine l_sld (k := 1) hx hb hX hbl hbA hS hi (by decide) (l_lt hN rfl) hN2 dL_law_543 ?_
  refine a_callVi (wr := zw G (XS bx) 105 a sx.1 sx.2 ++ [(qo, .inl (G.2.2.2.2.1, 1, .inr (.inl fJ)))]) (rest := []) li_L_144 C (rX12_obey l G H.size am fu gm Lm (xs (i + 1)) rm sm hm) ⟨(Nat.le_of_ble_eq_true rfl), (Nat.le_of_ble_eq_true rfl), (show cN + 0 + 0 ≤ 601024 from l_le hcN rfl), (show sN + 0 + 0 ≤ 7293033 from l_le hsN rfl)⟩ hP hD hS 0 12 rfl (zat (by decide) ms_0) rfl hl.1 rfl (Nat.le_of_ble_eq_true rfl) dL_law_544 (fun r_ um_ H locs hw_ hP hD hS => ?_)
  obtain rfl : rm = r_ := (show r_ = rm from hw_).symm
  refine W.widen (k := cN + 0) (n := sN + 0) (Nat.le_refl _) (Nat.le_refl _) ?_
  have hP : va_P G.1 vwCl (zw G MS 51 am sm.1 sm.2 ++ (zw G (XS bx) 105 a sx.1 sx.2 ++ [(qo, .inl (G.2.2.2.2.1, 1, .inr (.inl fJ)))])) H := hP
  have hD : va_D A (zw G MS 51 am sm.1 sm.2 ++ (zw G (XS bx) 105 a sx.1 sx.2 ++ [(qo, .inl (G.2.2.2.2.1, 1, .inr (.inl fJ)))])) := hD
  refine lv_pop hx hb dL_law_547 rfl ?_
  refine lv_goto (tgt := 1511) hx hb dL_law_548 (by decide) ?_
  refine W.widen (k := cN + 10) (n := sN + 60) (by omega) (by omega) ?_
  exact kk bx a fJ H locs ls hP hD hS (lv_sub hl [0, 1, 2, 3, 4] rfl)
set_option maxHeartbeats 4000000 in
set_option maxRecDepth 100000 in
theorem law_9 {p : Program} {e : Env} {s : State} {m : MethodId} {below : List Frame} {meth : Method} {c : Code} {l : Launch} (hst : l.stackTraces = false) {b N : Nat} {xs : Nat → Int32} {G : kG} {A : Nat → Prop} (hN2 : N ≤ 3072) (C0 : lw_At p s m meth c b N xs) (hA : A = fun q : Nat => s.heap.size ≤ q) (C : kC G p s m c cL_law 8 RL A) {i : Nat} {iv : Int32} (hi : iv.toInt = (i : Int)) (hN : i + 6 ≤ N) {bx : Nat} {a am : Nat → Nat} {fu : Nat} {g gm : Nat → Nat → Int32} {L Lm : Nat → Nat → Int64} {qo : Nat} {fJ : Nat → Int64} {cN sN : Nat} (hcN : cN + 10 ≤ 601024) (hsN : sN + 60 ≤ 7293033) {rx : Int32} {sx : zS} {rm : Int32} {sm : zS} (hxx : fX11_undo_0 fu  g L = some (rx, sx)) (hm : fX12_undo fu  gm Lm = some (rm, sm)) {H : Heap} {locs : List Loc} {ls : Array Slot} (hP : va_P G.1 vwCl (zw G MS 51 am gm Lm ++ (zw G (XS bx) 105 a g L ++ [(qo, .inl (G.2.2.2.2.1, 1, .inr (.inl fJ)))])) H) (hD : va_D A (zw G MS 51 am gm Lm ++ (zw G (XS bx) 105 a g L ++ [(qo, .inl (G.2.2.2.2.1, 1, .inr (.inl fJ)))]))) (hS : va_S A s.heap H locs) (hl : lv_has ls 8 [(0, .ref b), (1, .ref (a 0)), (2, .ref (am 0)), (3, .ref qo), (4, .int iv)]) (kk : ∀ (bx2 : Nat) (a2 : Nat → Nat) (fJ2 : Nat → Int64) (H1 : Heap) (locs1 : List Loc) (ls1 : Array Slot), va_P G.1 vwCl (zw G MS 51 am sm.1 sm.2 ++ (zw G (XS bx2) 105 a2 sx.1 sx.2 ++ [(qo, .inl (G.2.2.2.2.1, 1, .inr (.inl fJ2)))])) H1 → va_D A (zw G MS 51 am sm.1 sm.2 ++ (zw G (XS bx2) 105 a2 sx.1 sx.2 ++ [(qo, .inl (G.2.2.2.2.1, 1, .inr (.inl fJ2)))])) → va_S A s.heap H1 locs1 → lv_has ls1 8 [(0, .ref b), (1, .ref (a2 0)), (2, .ref (am 0)), (3, .ref qo), (4, .int iv)] → W p l e room_1 s m #[Value.ref b] below meth c H1 locs1 (cN + 10) (sN + 60) (lw_Z below #[Value.ref b] s) (F0 m 1511 ls1 [])) : W p l e room_1 s m #[Value.ref b] below meth c H locs cN sN (lw_Z below #[Value.ref b] s) (F0 m 551 ls []) := by
  obtain ⟨hx, hb, hr, -, -, -, hX, hbl, hlocks, -⟩ := id C0
  have hbA : ¬ A b := by rw [hA]; exact Nat.not_le.mpr hbl
  refine W.widen (k := cN + 0) (n := sN + 0) (Nat.le_refl _) (Nat.le_refl _) ?_
  refine lv_aload_n hx hb dL_law_551 rfl (lv_at hl 1 rfl) ?_
  have hP := swp_P hP
  have hD := swp_D hD
  rw [List.append_assoc] at hP hD
  refine a_callVi (wr := [(qo, .inl (G.2.2.2.2.1, 1, .inr (.inl fJ)))] ++ zw G MS 51 am gm Lm) (rest := []) li_L_145 C (rX11_undo_0 l G H.size bx a fu g L  rx sx hxx) ⟨(Nat.le_of_ble_eq_true rfl), (Nat.le_of_ble_eq_true rfl), (show cN + 0 + 0 ≤ 601024 from l_le hcN rfl), (show sN + 0 + 0 ≤ 7293033 from l_le hsN rfl)⟩ hP hD hS 0 11 rfl (zat (by decide) xs_0) rfl hl.1 rfl (Nat.le_of_ble_eq_true rfl) dL_law_552 (fun r_ u_ H locs hw_ hP hD hS => ?_)
  rw [← List.append_assoc] at hP hD
  have hP := swp_P hP
  have hD := swp_D hD
  obtain rfl : rx = r_ := (show r_ = rx from hw_).symm
  refine W.widen (k := cN + 0) (n := sN + 0) (Nat.le_refl _) (Nat.le_refl _) ?_
  have hP : va_P G.1 vwCl (zw G MS 51 am gm Lm ++ (zw G (XS bx) 105 a sx.1 sx.2 ++ [(qo, .inl (G.2.2.2.2.1, 1, .inr (.inl fJ)))])) H := hP
  have hD : va_D A (zw G MS 51 am gm Lm ++ (zw G (XS bx) 105 a sx.1 sx.2 ++ [(qo, .inl (G.2.2.2.2.1, 1, .inr (.inl fJ)))])) := hD
  refine lv_pop hx hb dL_law_555 rfl ?_
  refine lv_aload_n hx hb dL_law_556 rfl (lv_at hl 2 rfl) ?_
  refine a_callVi (wr := zw G (XS bx) 105 a sx.1 sx.2 ++ [(qo, .inl (G.2.2.2.2.1, 1, .inr (.inl fJ)))]) (rest := []) li_L_148 C (rX12_undo l G H.size am fu gm Lm  rm sm hm) ⟨(Nat.le_of_ble_eq_true rfl), (Nat.le_of_ble_eq_true rfl), (show cN + 0 + 0 ≤ 601024 from l_le hcN rfl), (show sN + 0 + 0 ≤ 7293033 from l_le hsN rfl)⟩ hP hD hS 0 12 rfl (zat (by decide) ms_0) rfl hl.1 rfl (Nat.le_of_ble_eq_true rfl) dL_law_557 (fun r_ um_ H locs hw_ hP hD hS => ?_)
  obtain rfl : rm = r_ := (show r_ = rm from hw_).symm
  refine W.widen (k := cN + 0) (n := sN + 0) (Nat.le_refl _) (Nat.le_refl _) ?_
  have hP : va_P G.1 vwCl (zw G MS 51 am sm.1 sm.2 ++ (zw G (XS bx) 105 a sx.1 sx.2 ++ [(qo, .inl (G.2.2.2.2.1, 1, .inr (.inl fJ)))])) H := hP
  have hD : va_D A (zw G MS 51 am sm.1 sm.2 ++ (zw G (XS bx) 105 a sx.1 sx.2 ++ [(qo, .inl (G.2.2.2.2.1, 1, .inr (.inl fJ)))])) := hD
  refine lv_pop hx hb dL_law_560 rfl ?_
  refine lv_goto (tgt := 1511) hx hb dL_law_561 (by decide) ?_
  refine W.widen (k := cN + 10) (n := sN + 60) (by omega) (by omega) ?_
  exact kk bx a fJ H locs ls hP hD hS (lv_sub hl [0, 1, 2, 3, 4] rfl)
set_option maxHeartbeats 4000000 in
set_option maxRecDepth 100000 in
theorem law_10 {p : Program} {e : Env} {s : State} {m : MethodId} {below : List Frame} {meth : Method} {c : Code} {l : Launch} (hst : l.stackTraces = false) {b N : Nat} {xs : Nat → Int32} {G : kG} {A : Nat → Prop} (hN2 : N ≤ 3072) (C0 : lw_At p s m meth c b N xs) (hA : A = fun q : Nat => s.heap.size ≤ q) (C : kC G p s m c cL_law 8 RL A) {i : Nat} {iv : Int32} (hi : iv.toInt = (i : Int)) (hN : i + 6 ≤ N) {bx : Nat} {a am : Nat → Nat} {fu : Nat} {g gm : Nat → Nat → Int32} {L Lm : Nat → Nat → Int64} {qo : Nat} {fJ : Nat → Int64} {cN sN : Nat} (hcN : cN + 10 ≤ 601024) (hsN : sN + 60 ≤ 7293033) {rx : Except String Int32} {sx : zS} {rm : Int32} {sm : zS} (hxx : fX11_far_0 fu (xs (i + 1)) (xs (i + 2)) (xs (i + 3)) g L = some (rx, sx)) (hE : ∀ E, rx = .error E → E = "java/util/NoSuchElementException" ∨ E = "java/lang/IllegalArgumentException") (hm : fX12_far fu (xs (i + 1)) (xs (i + 2)) (xs (i + 3)) gm Lm = some (rm, sm)) (hcmp : (rx = .ok rm ∧ sm.1 0 0 = 0) ∨ (rx = .error "java/util/NoSuchElementException" ∧ sm.1 0 0 = 1) ∨ (rx = .error "java/lang/IllegalArgumentException" ∧ sm.1 0 0 = 2)) {H : Heap} {locs : List Loc} {ls : Array Slot} (hP : va_P G.1 vwCl (zw G MS 51 am gm Lm ++ (zw G (XS bx) 105 a g L ++ [(qo, .inl (G.2.2.2.2.1, 1, .inr (.inl fJ)))])) H) (hD : va_D A (zw G MS 51 am gm Lm ++ (zw G (XS bx) 105 a g L ++ [(qo, .inl (G.2.2.2.2.1, 1, .inr (.inl fJ)))]))) (hS : va_S A s.heap H locs) (hl : lv_has ls 8 [(0, .ref b), (1, .ref (a 0)), (2, .ref (am 0)), (3, .ref qo), (4, .int iv)]) (kk : ∀ (bx2 : Nat) (a2 : Nat → Nat) (fJ2 : Nat → Int64) (H1 : Heap) (locs1 : List Loc) (ls1 : Array Slot), va_P G.1 vwCl (zw G MS 51 am sm.1 sm.2 ++ (zw G (XS bx2) 105 a2 sx.1 sx.2 ++ [(qo, .inl (G.2.2.2.2.1, 1, .inr (.inl fJ2)))])) H1 → va_D A (zw G MS 51 am sm.1 sm.2 ++ (zw G (XS bx2) 105 a2 sx.1 sx.2 ++ [(qo, .inl (G.2.2.2.2.1, 1, .inr (.inl fJ2)))])) → va_S A s.heap H1 locs1 → lv_has ls1 8 [(0, .ref b), (1, .ref (a2 0)), (2, .ref (am 0)), (3, .ref qo), (4, .int iv)] → W p l e room_1 s m #[Value.ref b] below meth c H1 locs1 (cN + 10) (sN + 60) (lw_Z below #[Value.ref b] s) (F0 m 1511 ls1 [])) : W p l e room_1 s m #[Value.ref b] below meth c H locs cN sN (lw_Z below #[Value.ref b] s) (F0 m 564 ls []) := by
  obtain ⟨hx, hb, hr, -, -, -, hX, hbl, hlocks, -⟩ := id C0
  have hbA : ¬ A b := by rw [hA]; exact Nat.not_le.mpr hbl
  refine W.widen (k := cN + 0) (n := sN + 0) (Nat.le_refl _) (Nat.le_refl _) ?_
  refine lv_aload_n hx hb dL_law_564 rfl (lv_at hl 1 rfl) ?_
  refine lv_aload_n hx hb dL_law_565 rfl (lv_at hl 0 rfl) ?_
  refine lv_iload hx hb dL_law_566 (lv_at hl 4 rfl) ?_
  refine lv_iconst (v := 1) hx hb dL_law_568 (by decide) ?_
  refine lv_iadd hx hb dL_law_569 ?_
  refine l_sld (k := 1) hx hb hX hbl hbA hS hi (by decide) (l_lt hN rfl) hN2 dL_law_570 ?_
  refine lv_aload_n hx hb dL_law_571 rfl (lv_at hl 0 rfl) ?_
  refine lv_iload hx hb dL_law_572 (lv_at hl 4 rfl) ?_
  refine lv_iconst (v := 2) hx hb dL_law_574 (by decide) ?_
  refine lv_iadd hx hb dL_law_575 ?_
  refine l_sld (k := 2) hx hb hX hbl hbA hS hi (by decide) (l_lt hN rfl) hN2 dL_law_576 ?_
  refine lv_aload_n hx hb dL_law_577 rfl (lv_at hl 0 rfl) ?_
  refine lv_iload hx hb dL_law_578 (lv_at hl 4 rfl) ?_
  refine lv_iconst (v := 3) hx hb dL_law_580 (by decide) ?_
  refine lv_iadd hx hb dL_law_581 ?_
  refine l_sld (k := 3) hx hb hX hbl hbA hS hi (by decide) (l_lt hN rfl) hN2 dL_law_582 ?_
  refine lv_aload_n hx hb dL_law_583 rfl (lv_at hl 3 rfl) ?_
  have hP := swp_P hP
  have hD := swp_D hD
  refine a_callHi (wc := zw G (XS bx) 105 a g L ++ [(qo, .inl (G.2.2.2.2.1, 1, .inr (.inl fJ)))]) (wr := zw G MS 51 am gm Lm) (rest := []) li_L_149 C (wL_far l hst G H.size bx a fu g L (xs (i + 1)) (xs (i + 2)) (xs (i + 3)) qo fJ rx sx hxx hE) ⟨(Nat.le_of_ble_eq_true rfl), (Nat.le_of_ble_eq_true rfl), (show cN + 0 + 3 ≤ 601024 from l_le hcN rfl), (show sN + 0 + 18 ≤ 7293033 from l_le hsN rfl)⟩ hP hD hS rfl hl.1 rfl (Nat.le_of_ble_eq_true rfl) dL_law_584 (fun k_ u_ H locs hwx_ hP hD hS => ?_)
  have hP := swp_P hP
  have hD := swp_D hD
  refine W.widen (k := cN + 3) (n := sN + 18) (Nat.le_refl _) (Nat.le_refl _) ?_
  have hP : va_P G.1 vwCl (zw G MS 51 am gm Lm ++ (zw G (XS bx) 105 a sx.1 sx.2 ++ [(qo, .inl (G.2.2.2.2.1, 1, .inr (.inl u_)))])) H := hP
  have hD : va_D A (zw G MS 51 am gm Lm ++ (zw G (XS bx) 105 a sx.1 sx.2 ++ [(qo, .inl (G.2.2.2.2.1, 1, .inr (.inl u_)))])) := hD
  refine lv_istore (lv' := [(5, .int k_), (0, .ref b), (1, .ref (a 0)), (2, .ref (am 0)), (3, .ref qo), (4, .int iv)]) hx hb dL_law_587 hl (by decide) rfl (fun ls hl => ?_)
  refine lv_aload_n hx hb dL_law_589 rfl (lv_at hl 3 rfl) ?_
  refine lv_aload_n hx hb dL_law_590 rfl (lv_at hl 1 rfl) ?_
  refine lv_iload hx hb dL_law_591 (lv_at hl 5 rfl) ?_
  refine lv_iconst (v := 1) hx hb dL_law_593 (by decide) ?_
  refine lv_iadd hx hb dL_law_594 ?_
  refine l_sld (k := 1) hx hb hX hbl hbA hS hi (by decide) (l_lt hN rfl) hN2 dL_law_595 ?_
  refine lv_aload_n hx hb dL_law_596 rfl (lv_at hl 1 rfl) ?_
  refine lv_iload hx hb dL_law_597 (lv_at hl 5 rfl) ?_
  refine lv_iconst (v := 2) hx hb dL_law_599 (by decide) ?_
  refine lv_iadd hx hb dL_law_600 ?_
  refine l_sld (k := 2) hx hb hX hbl hbA hS hi (by decide) (l_lt hN rfl) hN2 dL_law_601 ?_
  refine lv_aload_n hx hb dL_law_602 rfl (lv_at hl 1 rfl) ?_
  refine lv_iload hx hb dL_law_603 (lv_at hl 5 rfl) ?_
  refine lv_iconst (v := 3) hx hb dL_law_605 (by decide) ?_
  refine lv_iadd hx hb dL_law_606 ?_
  refine l_sld (k := 3) hx hb hX hbl hbA hS hi (by decide) (l_lt hN rfl) hN2 dL_law_607 ?_
  refine a_callVi (wr := zw G (XS bx) 105 a sx.1 sx.2 ++ [(qo, .inl (G.2.2.2.2.1, 1, .inr (.inl u_)))]) (rest := []) li_L_151 C (rX12_far l G H.size am fu gm Lm (xs (i + 1)) (xs (i + 2)) (xs (i + 3)) rm sm hm) ⟨(Nat.le_of_ble_eq_true rfl), (Nat.le_of_ble_eq_true rfl), (show cN + 3 + 0 ≤ 601024 from l_le hcN rfl), (show sN + 18 + 0 ≤ 7293033 from l_le hsN rfl)⟩ hP hD hS 0 12 rfl (zat (by decide) ms_0) rfl hl.1 rfl (Nat.le_of_ble_eq_true rfl) dL_law_608 (fun r_ um_ H locs hw_ hP hD hS => ?_)
  obtain rfl : rm = r_ := (show r_ = rm from hw_).symm
  refine W.widen (k := cN + 3) (n := sN + 18) (Nat.le_refl _) (Nat.le_refl _) ?_
  have hP : va_P G.1 vwCl (zw G MS 51 am sm.1 sm.2 ++ (zw G (XS bx) 105 a sx.1 sx.2 ++ [(qo, .inl (G.2.2.2.2.1, 1, .inr (.inl u_)))])) H := hP
  have hD : va_D A (zw G MS 51 am sm.1 sm.2 ++ (zw G (XS bx) 105 a sx.1 sx.2 ++ [(qo, .inl (G.2.2.2.2.1, 1, .inr (.inl u_)))])) := hD
  refine lv_istore (lv' := [(6, .int rm), (5, .int k_), (0, .ref b), (1, .ref (a 0)), (2, .ref (am 0)), (3, .ref qo), (4, .int iv)]) hx hb dL_law_611 hl (by decide) rfl (fun ls hl => ?_)
  refine lv_aload_n hx hb dL_law_613 rfl (lv_at hl 4 rfl) ?_
  refine a_callVi (wr := zw G (XS bx) 105 a sx.1 sx.2 ++ [(qo, .inl (G.2.2.2.2.1, 1, .inr (.inl u_)))]) (rest := []) li_L_152 C (rX12_thrown l G H.size am fu sm.1 sm.2 (sm.1 0 0) (sm.1, sm.2) rfl) ⟨(Nat.le_of_ble_eq_true rfl), (Nat.le_of_ble_eq_true rfl), (show cN + 3 + 0 ≤ 601024 from l_le hcN rfl), (show sN + 18 + 0 ≤ 7293033 from l_le hsN rfl)⟩ hP hD hS 0 12 rfl (zat (by decide) ms_0) rfl hl.1 rfl (Nat.le_of_ble_eq_true rfl) dL_law_614 (fun r_ um_ H locs hr_ hP hD hS => ?_)
  obtain rfl : r_ = sm.1 0 0 := hr_
  refine W.widen (k := cN + 3) (n := sN + 18) (Nat.le_refl _) (Nat.le_refl _) ?_
  have hP : va_P G.1 vwCl (zw G MS 51 am sm.1 sm.2 ++ (zw G (XS bx) 105 a sx.1 sx.2 ++ [(qo, .inl (G.2.2.2.2.1, 1, .inr (.inl u_)))])) H := hP
  have hD : va_D A (zw G MS 51 am sm.1 sm.2 ++ (zw G (XS bx) 105 a sx.1 sx.2 ++ [(qo, .inl (G.2.2.2.2.1, 1, .inr (.inl u_)))])) := hD
  refine lv_iload hx hb dL_law_617 (lv_at hl 1 rfl) ?_
  have hz_ := wcmp2 (f := (fun v => Int32.toInt64 v)) (by decide) hcmp hwx_
  refine lv_icmp_eq (x := sm.1 0 0) (y := k_) (tgt := 624) hx hb dL_law_619 (by decide) (fun _ => ?_) (fun h_ => absurd hz_.1 h_)
  refine lv_iload hx hb dL_law_624 (lv_at hl 1 rfl) ?_
  refine lv_if_ne (x := k_) (tgt := 641) hx hb dL_law_626 (by decide) (fun _ => ?_) (fun h0_ => ?_)
  · refine lv_goto (tgt := 1511) hx hb dL_law_641 (by decide) ?_
    refine W.widen (k := cN + 10) (n := sN + 60) (by omega) (by omega) ?_
    exact kk bx a u_ H locs ls hP hD hS (lv_sub hl [2, 3, 4, 5, 6] rfl)
  refine lv_aload_n hx hb dL_law_629 rfl (lv_at hl 5 rfl) ?_
  refine lv_iconst (v := 0) hx hb dL_law_630 (by decide) ?_
  refine k_lald C hP 156 (zw_out zw_len zw_len) (k_in (by decide)) dL_law_631 ?_
  refine k_eql (hz_.2 h0_) ?_
  refine lv_iload hx hb dL_law_632 (lv_at hl 0 rfl) ?_
  refine lv_i2l hx hb dL_law_634 rfl ?_
  refine W.lcmp hx hb dL_law_635 ?_
  refine k_eqi (y := 0) (k_lcmp _) ?_
  refine lv_if_eq (x := 0) (tgt := 641) hx hb dL_law_636 (by decide) (fun _ => ?_) (fun h_ => absurd rfl h_)
  refine lv_goto (tgt := 1511) hx hb dL_law_641 (by decide) ?_
  refine W.widen (k := cN + 10) (n := sN + 60) (by omega) (by omega) ?_
  exact kk bx a u_ H locs ls hP hD hS (lv_sub hl [2, 3, 4, 5, 6] rfl)
set_option maxHeartbeats 4000000 in
set_option maxRecDepth 100000 in
theorem law_11 {p : Program} {e : Env} {s : State} {m : MethodId} {below : List Frame} {meth : Method} {c : Code} {l : Launch} (hst : l.stackTraces = false) {b N : Nat} {xs : Nat → Int32} {G : kG} {A : Nat → Prop} (hN2 : N ≤ 3072) (C0 : lw_At p s m meth c b N xs) (hA : A = fun q : Nat => s.heap.size ≤ q) (C : kC G p s m c cL_law 8 RL A) {i : Nat} {iv : Int32} (hi : iv.toInt = (i : Int)) (hN : i + 6 ≤ N) {bx : Nat} {a am : Nat → Nat} {fu : Nat} {g gm : Nat → Nat → Int32} {L Lm : Nat → Nat → Int64} {qo : Nat} {fJ : Nat → Int64} {cN sN : Nat} (hcN : cN + 10 ≤ 601024) (hsN : sN + 60 ≤ 7293033) {rx : Except String Int32} {sx : zS} {rm : Int32} {sm : zS} (hxx : fX11_reaches_0 fu (xs (i + 1)) (xs (i + 2)) g L = some (rx, sx)) (hE : ∀ E, rx = .error E → E = "java/util/NoSuchElementException" ∨ E = "java/lang/IllegalArgumentException") (hm : fX12_reaches fu (xs (i + 1)) (xs (i + 2)) gm Lm = some (rm, sm)) {H : Heap} {locs : List Loc} {ls : Array Slot} (hP : va_P G.1 vwCl (zw G MS 51 am gm Lm ++ (zw G (XS bx) 105 a g L ++ [(qo, .inl (G.2.2.2.2.1, 1, .inr (.inl fJ)))])) H) (hD : va_D A (zw G MS 51 am gm Lm ++ (zw G (XS bx) 105 a g L ++ [(qo, .inl (G.2.2.2.2.1, 1, .inr (.inl fJ)))]))) (hS : va_S A s.heap H locs) (hl : lv_has ls 8 [(0, .ref b), (1, .ref (a 0)), (2, .ref (am 0)), (3, .ref qo), (4, .int iv)]) (kk : ∀ (bx2 : Nat) (a2 : Nat → Nat) (fJ2 : Nat → Int64) (H1 : Heap) (locs1 : List Loc) (ls1 : Array Slot), va_P G.1 vwCl (zw G MS 51 am sm.1 sm.2 ++ (zw G (XS bx2) 105 a2 sx.1 sx.2 ++ [(qo, .inl (G.2.2.2.2.1, 1, .inr (.inl fJ2)))])) H1 → va_D A (zw G MS 51 am sm.1 sm.2 ++ (zw G (XS bx2) 105 a2 sx.1 sx.2 ++ [(qo, .inl (G.2.2.2.2.1, 1, .inr (.inl fJ2)))])) → va_S A s.heap H1 locs1 → lv_has ls1 8 [(0, .ref b), (1, .ref (a2 0)), (2, .ref (am 0)), (3, .ref qo), (4, .int iv)] → W p l e room_1 s m #[Value.ref b] below meth c H1 locs1 (cN + 10) (sN + 60) (lw_Z below #[Value.ref b] s) (F0 m 1511 ls1 [])) : W p l e room_1 s m #[Value.ref b] below meth c H locs cN sN (lw_Z below #[Value.ref b] s) (F0 m 644 ls []) := by
  obtain ⟨hx, hb, hr, -, -, -, hX, hbl, hlocks, -⟩ := id C0
  have hbA : ¬ A b := by rw [hA]; exact Nat.not_le.mpr hbl
  refine W.widen (k := cN + 0) (n := sN + 0) (Nat.le_refl _) (Nat.le_refl _) ?_
  refine lv_aload_n hx hb dL_law_644 rfl (lv_at hl 1 rfl) ?_
  refine lv_aload_n hx hb dL_law_645 rfl (lv_at hl 0 rfl) ?_
  refine lv_iload hx hb dL_law_646 (lv_at hl 4 rfl) ?_
  refine lv_iconst (v := 1) hx hb dL_law_648 (by decide) ?_
  refine lv_iadd hx hb dL_law_649 ?_
  refine l_sld (k := 1) hx hb hX hbl hbA hS hi (by decide) (l_lt hN rfl) hN2 dL_law_650 ?_
  refine lv_aload_n hx hb dL_law_651 rfl (lv_at hl 0 rfl) ?_
  refine lv_iload hx hb dL_law_652 (lv_at hl 4 rfl) ?_
  refine lv_iconst (v := 2) hx hb dL_law_654 (by decide) ?_
  refine lv_iadd hx hb dL_law_655 ?_
  refine l_sld (k := 2) hx hb hX hbl hbA hS hi (by decide) (l_lt hN rfl) hN2 dL_law_656 ?_
  refine lv_aload_n hx hb dL_law_657 rfl (lv_at hl 3 rfl) ?_
  have hP := swp_P hP
  have hD := swp_D hD
  refine a_callHi (wc := zw G (XS bx) 105 a g L ++ [(qo, .inl (G.2.2.2.2.1, 1, .inr (.inl fJ)))]) (wr := zw G MS 51 am gm Lm) (rest := []) li_L_155 C (wL_reaches l hst G H.size bx a fu g L (xs (i + 1)) (xs (i + 2)) qo fJ rx sx hxx hE) ⟨(Nat.le_of_ble_eq_true rfl), (Nat.le_of_ble_eq_true rfl), (show cN + 0 + 3 ≤ 601024 from l_le hcN rfl), (show sN + 0 + 18 ≤ 7293033 from l_le hsN rfl)⟩ hP hD hS rfl hl.1 rfl (Nat.le_of_ble_eq_true rfl) dL_law_658 (fun k_ u_ H locs hwx_ hP hD hS => ?_)
  have hP := swp_P hP
  have hD := swp_D hD
  refine W.widen (k := cN + 3) (n := sN + 18) (Nat.le_refl _) (Nat.le_refl _) ?_
  have hP : va_P G.1 vwCl (zw G MS 51 am gm Lm ++ (zw G (XS bx) 105 a sx.1 sx.2 ++ [(qo, .inl (G.2.2.2.2.1, 1, .inr (.inl u_)))])) H := hP
  have hD : va_D A (zw G MS 51 am gm Lm ++ (zw G (XS bx) 105 a sx.1 sx.2 ++ [(qo, .inl (G.2.2.2.2.1, 1, .inr (.inl u_)))])) := hD
  refine lv_istore (lv' := [(5, .int k_), (0, .ref b), (1, .ref (a 0)), (2, .ref (am 0)), (3, .ref qo), (4, .int iv)]) hx hb dL_law_661 hl (by decide) rfl (fun ls hl => ?_)
  refine lv_aload_n hx hb dL_law_663 rfl (lv_at hl 3 rfl) ?_
  refine lv_aload_n hx hb dL_law_664 rfl (lv_at hl 1 rfl) ?_
  refine lv_iload hx hb dL_law_665 (lv_at hl 5 rfl) ?_
  refine lv_iconst (v := 1) hx hb dL_law_667 (by decide) ?_
  refine lv_iadd hx hb dL_law_668 ?_
  refine l_sld (k := 1) hx hb hX hbl hbA hS hi (by decide) (l_lt hN rfl) hN2 dL_law_669 ?_
  refine lv_aload_n hx hb dL_law_670 rfl (lv_at hl 1 rfl) ?_
  refine lv_iload hx hb dL_law_671 (lv_at hl 5 rfl) ?_
  refine lv_iconst (v := 2) hx hb dL_law_673 (by decide) ?_
  refine lv_iadd hx hb dL_law_674 ?_
  refine l_sld (k := 2) hx hb hX hbl hbA hS hi (by decide) (l_lt hN rfl) hN2 dL_law_675 ?_
  refine a_callVi (wr := zw G (XS bx) 105 a sx.1 sx.2 ++ [(qo, .inl (G.2.2.2.2.1, 1, .inr (.inl u_)))]) (rest := []) li_L_157 C (rX12_reaches l G H.size am fu gm Lm (xs (i + 1)) (xs (i + 2)) rm sm hm) ⟨(Nat.le_of_ble_eq_true rfl), (Nat.le_of_ble_eq_true rfl), (show cN + 3 + 0 ≤ 601024 from l_le hcN rfl), (show sN + 18 + 0 ≤ 7293033 from l_le hsN rfl)⟩ hP hD hS 0 12 rfl (zat (by decide) ms_0) rfl hl.1 rfl (Nat.le_of_ble_eq_true rfl) dL_law_676 (fun r_ um_ H locs hw_ hP hD hS => ?_)
  obtain rfl : rm = r_ := (show r_ = rm from hw_).symm
  refine W.widen (k := cN + 3) (n := sN + 18) (Nat.le_refl _) (Nat.le_refl _) ?_
  have hP : va_P G.1 vwCl (zw G MS 51 am sm.1 sm.2 ++ (zw G (XS bx) 105 a sx.1 sx.2 ++ [(qo, .inl (G.2.2.2.2.1, 1, .inr (.inl u_)))])) H := hP
  have hD : va_D A (zw G MS 51 am sm.1 sm.2 ++ (zw G (XS bx) 105 a sx.1 sx.2 ++ [(qo, .inl (G.2.2.2.2.1, 1, .inr (.inl u_)))])) := hD
  refine lv_istore (lv' := [(6, .int rm), (5, .int k_), (0, .ref b), (1, .ref (a 0)), (2, .ref (am 0)), (3, .ref qo), (4, .int iv)]) hx hb dL_law_679 hl (by decide) rfl (fun ls hl => ?_)
  refine lv_goto (tgt := 1511) hx hb dL_law_681 (by decide) ?_
  refine W.widen (k := cN + 10) (n := sN + 60) (by omega) (by omega) ?_
  exact kk bx a u_ H locs ls hP hD hS (lv_sub hl [2, 3, 4, 5, 6] rfl)
set_option maxHeartbeats 4000000 in
set_option maxRecDepth 100000 in
theorem law_12 {p : Program} {e : Env} {s : State} {m : MethodId} {below : List Frame} {meth : Method} {c : Code} {l : Launch} (hst : l.stackTraces = false) {b N : Nat} {xs : Nat → Int32} {G : kG} {A : Nat → Prop} (hN2 : N ≤ 3072) (C0 : lw_At p s m meth c b N xs) (hA : A = fun q : Nat => s.heap.size ≤ q) (C : kC G p s m c cL_law 8 RL A) {i : Nat} {iv : Int32} (hi : iv.toInt = (i : Int)) (hN : i + 6 ≤ N) {bx : Nat} {a am : Nat → Nat} {fu : Nat} {g gm : Nat → Nat → Int32} {L Lm : Nat → Nat → Int64} {qo : Nat} {fJ : Nat → Int64} {cN sN : Nat} (hcN : cN + 10 ≤ 601024) (hsN : sN + 60 ≤ 7293033) {rx : Except String Int32} {sx : zS} {rm : Int32} {sm : zS} (hxx : fX11_slack_0 fu (xs (i + 1)) g L = some (rx, sx)) (hE : ∀ E, rx = .error E → E = "java/util/NoSuchElementException") (hm : fX12_slack fu (xs (i + 1)) gm Lm = some (rm, sm)) {H : Heap} {locs : List Loc} {ls : Array Slot} (hP : va_P G.1 vwCl (zw G MS 51 am gm Lm ++ (zw G (XS bx) 105 a g L ++ [(qo, .inl (G.2.2.2.2.1, 1, .inr (.inl fJ)))])) H) (hD : va_D A (zw G MS 51 am gm Lm ++ (zw G (XS bx) 105 a g L ++ [(qo, .inl (G.2.2.2.2.1, 1, .inr (.inl fJ)))]))) (hS : va_S A s.heap H locs) (hl : lv_has ls 8 [(0, .ref b), (1, .ref (a 0)), (2, .ref (am 0)), (3, .ref qo), (4, .int iv)]) (kk : ∀ (bx2 : Nat) (a2 : Nat → Nat) (fJ2 : Nat → Int64) (H1 : Heap) (locs1 : List Loc) (ls1 : Array Slot), va_P G.1 vwCl (zw G MS 51 am sm.1 sm.2 ++ (zw G (XS bx2) 105 a2 sx.1 sx.2 ++ [(qo, .inl (G.2.2.2.2.1, 1, .inr (.inl fJ2)))])) H1 → va_D A (zw G MS 51 am sm.1 sm.2 ++ (zw G (XS bx2) 105 a2 sx.1 sx.2 ++ [(qo, .inl (G.2.2.2.2.1, 1, .inr (.inl fJ2)))])) → va_S A s.heap H1 locs1 → lv_has ls1 8 [(0, .ref b), (1, .ref (a2 0)), (2, .ref (am 0)), (3, .ref qo), (4, .int iv)] → W p l e room_1 s m #[Value.ref b] below meth c H1 locs1 (cN + 10) (sN + 60) (lw_Z below #[Value.ref b] s) (F0 m 1511 ls1 [])) : W p l e room_1 s m #[Value.ref b] below meth c H locs cN sN (lw_Z below #[Value.ref b] s) (F0 m 684 ls []) := by
  obtain ⟨hx, hb, hr, -, -, -, hX, hbl, hlocks, -⟩ := id C0
  have hbA : ¬ A b := by rw [hA]; exact Nat.not_le.mpr hbl
  refine W.widen (k := cN + 0) (n := sN + 0) (Nat.le_refl _) (Nat.le_refl _) ?_
  refine lv_aload_n hx hb dL_law_684 rfl (lv_at hl 1 rfl) ?_
  refine lv_aload_n hx hb dL_law_685 rfl (lv_at hl 0 rfl) ?_
  refine lv_iload hx hb dL_law_686 (lv_at hl 4 rfl) ?_
  refine lv_iconst (v := 1) hx hb dL_law_688 (by decide) ?_
  refine lv_iadd hx hb dL_law_689 ?_
  refine l_sld (k := 1) hx hb hX hbl hbA hS hi (by decide) (l_lt hN rfl) hN2 dL_law_690 ?_
  refine lv_aload_n hx hb dL_law_691 rfl (lv_at hl 3 rfl) ?_
  have hP := swp_P hP
  have hD := swp_D hD
  refine a_callHi (wc := zw G (XS bx) 105 a g L ++ [(qo, .inl (G.2.2.2.2.1, 1, .inr (.inl fJ)))]) (wr := zw G MS 51 am gm Lm) (rest := []) li_L_158 C (wL_slack l hst G H.size bx a fu g L (xs (i + 1)) qo fJ rx sx hxx hE) ⟨(Nat.le_of_ble_eq_true rfl), (Nat.le_of_ble_eq_true rfl), (show cN + 0 + 1 ≤ 601024 from l_le hcN rfl), (show sN + 0 + 6 ≤ 7293033 from l_le hsN rfl)⟩ hP hD hS rfl hl.1 rfl (Nat.le_of_ble_eq_true rfl) dL_law_692 (fun k_ u_ H locs hwx_ hP hD hS => ?_)
  have hP := swp_P hP
  have hD := swp_D hD
  refine W.widen (k := cN + 1) (n := sN + 6) (Nat.le_refl _) (Nat.le_refl _) ?_
  have hP : va_P G.1 vwCl (zw G MS 51 am gm Lm ++ (zw G (XS bx) 105 a sx.1 sx.2 ++ [(qo, .inl (G.2.2.2.2.1, 1, .inr (.inl u_)))])) H := hP
  have hD : va_D A (zw G MS 51 am gm Lm ++ (zw G (XS bx) 105 a sx.1 sx.2 ++ [(qo, .inl (G.2.2.2.2.1, 1, .inr (.inl u_)))])) := hD
  refine lv_istore (lv' := [(5, .int k_), (0, .ref b), (1, .ref (a 0)), (2, .ref (am 0)), (3, .ref qo), (4, .int iv)]) hx hb dL_law_695 hl (by decide) rfl (fun ls hl => ?_)
  refine lv_aload_n hx hb dL_law_697 rfl (lv_at hl 3 rfl) ?_
  refine lv_aload_n hx hb dL_law_698 rfl (lv_at hl 1 rfl) ?_
  refine lv_iload hx hb dL_law_699 (lv_at hl 5 rfl) ?_
  refine lv_iconst (v := 1) hx hb dL_law_701 (by decide) ?_
  refine lv_iadd hx hb dL_law_702 ?_
  refine l_sld (k := 1) hx hb hX hbl hbA hS hi (by decide) (l_lt hN rfl) hN2 dL_law_703 ?_
  refine a_callVi (wr := zw G (XS bx) 105 a sx.1 sx.2 ++ [(qo, .inl (G.2.2.2.2.1, 1, .inr (.inl u_)))]) (rest := []) li_L_160 C (rX12_slack l G H.size am fu gm Lm (xs (i + 1)) rm sm hm) ⟨(Nat.le_of_ble_eq_true rfl), (Nat.le_of_ble_eq_true rfl), (show cN + 1 + 0 ≤ 601024 from l_le hcN rfl), (show sN + 6 + 0 ≤ 7293033 from l_le hsN rfl)⟩ hP hD hS 0 12 rfl (zat (by decide) ms_0) rfl hl.1 rfl (Nat.le_of_ble_eq_true rfl) dL_law_704 (fun r_ um_ H locs hw_ hP hD hS => ?_)
  obtain rfl : rm = r_ := (show r_ = rm from hw_).symm
  refine W.widen (k := cN + 1) (n := sN + 6) (Nat.le_refl _) (Nat.le_refl _) ?_
  have hP : va_P G.1 vwCl (zw G MS 51 am sm.1 sm.2 ++ (zw G (XS bx) 105 a sx.1 sx.2 ++ [(qo, .inl (G.2.2.2.2.1, 1, .inr (.inl u_)))])) H := hP
  have hD : va_D A (zw G MS 51 am sm.1 sm.2 ++ (zw G (XS bx) 105 a sx.1 sx.2 ++ [(qo, .inl (G.2.2.2.2.1, 1, .inr (.inl u_)))])) := hD
  refine lv_istore (lv' := [(6, .int rm), (5, .int k_), (0, .ref b), (1, .ref (a 0)), (2, .ref (am 0)), (3, .ref qo), (4, .int iv)]) hx hb dL_law_707 hl (by decide) rfl (fun ls hl => ?_)
  refine lv_goto (tgt := 1511) hx hb dL_law_709 (by decide) ?_
  refine W.widen (k := cN + 10) (n := sN + 60) (by omega) (by omega) ?_
  exact kk bx a u_ H locs ls hP hD hS (lv_sub hl [2, 3, 4, 5, 6] rfl)
set_option maxHeartbeats 4000000 in
set_option maxRecDepth 100000 in
theorem law_13 {p : Program} {e : Env} {s : State} {m : MethodId} {below : List Frame} {meth : Method} {c : Code} {l : Launch} (hst : l.stackTraces = false) {b N : Nat} {xs : Nat → Int32} {G : kG} {A : Nat → Prop} (hN2 : N ≤ 3072) (C0 : lw_At p s m meth c b N xs) (hA : A = fun q : Nat => s.heap.size ≤ q) (C : kC G p s m c cL_law 8 RL A) {i : Nat} {iv : Int32} (hi : iv.toInt = (i : Int)) (hN : i + 6 ≤ N) {bx : Nat} {a am : Nat → Nat} {fu : Nat} {g gm : Nat → Nat → Int32} {L Lm : Nat → Nat → Int64} {qo : Nat} {fJ : Nat → Int64} {cN sN : Nat} (hcN : cN + 10 ≤ 601024) (hsN : sN + 60 ≤ 7293033) {rx : Except String Int32} {sx : zS} {rm : Int32} {sm : zS} (hxx : fX11_gaps_0 fu (xs (i + 1)) (xs (i + 2)) (xs (i + 3)) g L = some (rx, sx)) (hE : ∀ E, rx = .error E → E = "java/util/NoSuchElementException" ∨ E = "java/lang/IllegalArgumentException") (hm : fX12_gaps fu (xs (i + 1)) (xs (i + 2)) (xs (i + 3)) gm Lm = some (rm, sm)) {H : Heap} {locs : List Loc} {ls : Array Slot} (hP : va_P G.1 vwCl (zw G MS 51 am gm Lm ++ (zw G (XS bx) 105 a g L ++ [(qo, .inl (G.2.2.2.2.1, 1, .inr (.inl fJ)))])) H) (hD : va_D A (zw G MS 51 am gm Lm ++ (zw G (XS bx) 105 a g L ++ [(qo, .inl (G.2.2.2.2.1, 1, .inr (.inl fJ)))]))) (hS : va_S A s.heap H locs) (hl : lv_has ls 8 [(0, .ref b), (1, .ref (a 0)), (2, .ref (am 0)), (3, .ref qo), (4, .int iv)]) (kk : ∀ (bx2 : Nat) (a2 : Nat → Nat) (fJ2 : Nat → Int64) (H1 : Heap) (locs1 : List Loc) (ls1 : Array Slot), va_P G.1 vwCl (zw G MS 51 am sm.1 sm.2 ++ (zw G (XS bx2) 105 a2 sx.1 sx.2 ++ [(qo, .inl (G.2.2.2.2.1, 1, .inr (.inl fJ2)))])) H1 → va_D A (zw G MS 51 am sm.1 sm.2 ++ (zw G (XS bx2) 105 a2 sx.1 sx.2 ++ [(qo, .inl (G.2.2.2.2.1, 1, .inr (.inl fJ2)))])) → va_S A s.heap H1 locs1 → lv_has ls1 8 [(0, .ref b), (1, .ref (a2 0)), (2, .ref (am 0)), (3, .ref qo), (4, .int iv)] → W p l e room_1 s m #[Value.ref b] below meth c H1 locs1 (cN + 10) (sN + 60) (lw_Z below #[Value.ref b] s) (F0 m 1511 ls1 [])) : W p l e room_1 s m #[Value.ref b] below meth c H locs cN sN (lw_Z below #[Value.ref b] s) (F0 m 712 ls []) := by
  obtain ⟨hx, hb, hr, -, -, -, hX, hbl, hlocks, -⟩ := id C0
  have hbA : ¬ A b := by rw [hA]; exact Nat.not_le.mpr hbl
  refine W.widen (k := cN + 0) (n := sN + 0) (Nat.le_refl _) (Nat.le_refl _) ?_
  refine lv_aload_n hx hb dL_law_712 rfl (lv_at hl 1 rfl) ?_
  refine lv_aload_n hx hb dL_law_713 rfl (lv_at hl 0 rfl) ?_
  refine lv_iload hx hb dL_law_714 (lv_at hl 4 rfl) ?_
  refine lv_iconst (v := 1) hx hb dL_law_716 (by decide) ?_
  refine lv_iadd hx hb dL_law_717 ?_
  refine l_sld (k := 1) hx hb hX hbl hbA hS hi (by decide) (l_lt hN rfl) hN2 dL_law_718 ?_
  refine lv_aload_n hx hb dL_law_719 rfl (lv_at hl 0 rfl) ?_
  refine lv_iload hx hb dL_law_720 (lv_at hl 4 rfl) ?_
  refine lv_iconst (v := 2) hx hb dL_law_722 (by decide) ?_
  refine lv_iadd hx hb dL_law_723 ?_
  refine l_sld (k := 2) hx hb hX hbl hbA hS hi (by decide) (l_lt hN rfl) hN2 dL_law_724 ?_
  refine lv_aload_n hx hb dL_law_725 rfl (lv_at hl 0 rfl) ?_
  refine lv_iload hx hb dL_law_726 (lv_at hl 4 rfl) ?_
  refine lv_iconst (v := 3) hx hb dL_law_728 (by decide) ?_
  refine lv_iadd hx hb dL_law_729 ?_
  refine l_sld (k := 3) hx hb hX hbl hbA hS hi (by decide) (l_lt hN rfl) hN2 dL_law_730 ?_
  refine lv_aload_n hx hb dL_law_731 rfl (lv_at hl 3 rfl) ?_
  have hP := swp_P hP
  have hD := swp_D hD
  refine a_callHi (wc := zw G (XS bx) 105 a g L ++ [(qo, .inl (G.2.2.2.2.1, 1, .inr (.inl fJ)))]) (wr := zw G MS 51 am gm Lm) (rest := []) li_L_161 C (wL_gaps l hst G H.size bx a fu g L (xs (i + 1)) (xs (i + 2)) (xs (i + 3)) qo fJ rx sx hxx hE) ⟨(Nat.le_of_ble_eq_true rfl), (Nat.le_of_ble_eq_true rfl), (show cN + 0 + 3 ≤ 601024 from l_le hcN rfl), (show sN + 0 + 18 ≤ 7293033 from l_le hsN rfl)⟩ hP hD hS rfl hl.1 rfl (Nat.le_of_ble_eq_true rfl) dL_law_732 (fun k_ u_ H locs hwx_ hP hD hS => ?_)
  have hP := swp_P hP
  have hD := swp_D hD
  refine W.widen (k := cN + 3) (n := sN + 18) (Nat.le_refl _) (Nat.le_refl _) ?_
  have hP : va_P G.1 vwCl (zw G MS 51 am gm Lm ++ (zw G (XS bx) 105 a sx.1 sx.2 ++ [(qo, .inl (G.2.2.2.2.1, 1, .inr (.inl u_)))])) H := hP
  have hD : va_D A (zw G MS 51 am gm Lm ++ (zw G (XS bx) 105 a sx.1 sx.2 ++ [(qo, .inl (G.2.2.2.2.1, 1, .inr (.inl u_)))])) := hD
  refine lv_istore (lv' := [(5, .int k_), (0, .ref b), (1, .ref (a 0)), (2, .ref (am 0)), (3, .ref qo), (4, .int iv)]) hx hb dL_law_735 hl (by decide) rfl (fun ls hl => ?_)
  refine lv_aload_n hx hb dL_law_737 rfl (lv_at hl 3 rfl) ?_
  refine lv_aload_n hx hb dL_law_738 rfl (lv_at hl 1 rfl) ?_
  refine lv_iload hx hb dL_law_739 (lv_at hl 5 rfl) ?_
  refine lv_iconst (v := 1) hx hb dL_law_741 (by decide) ?_
  refine lv_iadd hx hb dL_law_742 ?_
  refine l_sld (k := 1) hx hb hX hbl hbA hS hi (by decide) (l_lt hN rfl) hN2 dL_law_743 ?_
  refine lv_aload_n hx hb dL_law_744 rfl (lv_at hl 1 rfl) ?_
  refine lv_iload hx hb dL_law_745 (lv_at hl 5 rfl) ?_
  refine lv_iconst (v := 2) hx hb dL_law_747 (by decide) ?_
  refine lv_iadd hx hb dL_law_748 ?_
  refine l_sld (k := 2) hx hb hX hbl hbA hS hi (by decide) (l_lt hN rfl) hN2 dL_law_749 ?_
  refine lv_aload_n hx hb dL_law_750 rfl (lv_at hl 1 rfl) ?_
  refine lv_iload hx hb dL_law_751 (lv_at hl 5 rfl) ?_
  refine lv_iconst (v := 3) hx hb dL_law_753 (by decide) ?_
  refine lv_iadd hx hb dL_law_754 ?_
  refine l_sld (k := 3) hx hb hX hbl hbA hS hi (by decide) (l_lt hN rfl) hN2 dL_law_755 ?_
  refine a_callVi (wr := zw G (XS bx) 105 a sx.1 sx.2 ++ [(qo, .inl (G.2.2.2.2.1, 1, .inr (.inl u_)))]) (rest := []) li_L_163 C (rX12_gaps l G H.size am fu gm Lm (xs (i + 1)) (xs (i + 2)) (xs (i + 3)) rm sm hm) ⟨(Nat.le_of_ble_eq_true rfl), (Nat.le_of_ble_eq_true rfl), (show cN + 3 + 0 ≤ 601024 from l_le hcN rfl), (show sN + 18 + 0 ≤ 7293033 from l_le hsN rfl)⟩ hP hD hS 0 12 rfl (zat (by decide) ms_0) rfl hl.1 rfl (Nat.le_of_ble_eq_true rfl) dL_law_756 (fun r_ um_ H locs hw_ hP hD hS => ?_)
  obtain rfl : rm = r_ := (show r_ = rm from hw_).symm
  refine W.widen (k := cN + 3) (n := sN + 18) (Nat.le_refl _) (Nat.le_refl _) ?_
  have hP : va_P G.1 vwCl (zw G MS 51 am sm.1 sm.2 ++ (zw G (XS bx) 105 a sx.1 sx.2 ++ [(qo, .inl (G.2.2.2.2.1, 1, .inr (.inl u_)))])) H := hP
  have hD : va_D A (zw G MS 51 am sm.1 sm.2 ++ (zw G (XS bx) 105 a sx.1 sx.2 ++ [(qo, .inl (G.2.2.2.2.1, 1, .inr (.inl u_)))])) := hD
  refine lv_istore (lv' := [(6, .int rm), (5, .int k_), (0, .ref b), (1, .ref (a 0)), (2, .ref (am 0)), (3, .ref qo), (4, .int iv)]) hx hb dL_law_759 hl (by decide) rfl (fun ls hl => ?_)
  refine lv_goto (tgt := 1511) hx hb dL_law_761 (by decide) ?_
  refine W.widen (k := cN + 10) (n := sN + 60) (by omega) (by omega) ?_
  exact kk bx a u_ H locs ls hP hD hS (lv_sub hl [2, 3, 4, 5, 6] rfl)
set_option maxHeartbeats 4000000 in
set_option maxRecDepth 100000 in
theorem law_14 {p : Program} {e : Env} {s : State} {m : MethodId} {below : List Frame} {meth : Method} {c : Code} {l : Launch} (hst : l.stackTraces = false) {b N : Nat} {xs : Nat → Int32} {G : kG} {A : Nat → Prop} (hN2 : N ≤ 3072) (C0 : lw_At p s m meth c b N xs) (hA : A = fun q : Nat => s.heap.size ≤ q) (C : kC G p s m c cL_law 8 RL A) {i : Nat} {iv : Int32} (hi : iv.toInt = (i : Int)) (hN : i + 6 ≤ N) {bx : Nat} {a am : Nat → Nat} {fu : Nat} {g gm : Nat → Nat → Int32} {L Lm : Nat → Nat → Int64} {qo : Nat} {fJ : Nat → Int64} {cN sN : Nat} (hcN : cN + 10 ≤ 601024) (hsN : sN + 60 ≤ 7293033) {rx : Except String Int32} {sx : zS} {rm : Int32} {sm : zS} (hxx : fX11_gap_0 fu (xs (i + 1)) g L = some (rx, sx)) (hE : ∀ E, rx = .error E → E = "java/util/NoSuchElementException") (hm : fX12_gap fu (xs (i + 1)) gm Lm = some (rm, sm)) {H : Heap} {locs : List Loc} {ls : Array Slot} (hP : va_P G.1 vwCl (zw G MS 51 am gm Lm ++ (zw G (XS bx) 105 a g L ++ [(qo, .inl (G.2.2.2.2.1, 1, .inr (.inl fJ)))])) H) (hD : va_D A (zw G MS 51 am gm Lm ++ (zw G (XS bx) 105 a g L ++ [(qo, .inl (G.2.2.2.2.1, 1, .inr (.inl fJ)))]))) (hS : va_S A s.heap H locs) (hl : lv_has ls 8 [(0, .ref b), (1, .ref (a 0)), (2, .ref (am 0)), (3, .ref qo), (4, .int iv)]) (kk : ∀ (bx2 : Nat) (a2 : Nat → Nat) (fJ2 : Nat → Int64) (H1 : Heap) (locs1 : List Loc) (ls1 : Array Slot), va_P G.1 vwCl (zw G MS 51 am sm.1 sm.2 ++ (zw G (XS bx2) 105 a2 sx.1 sx.2 ++ [(qo, .inl (G.2.2.2.2.1, 1, .inr (.inl fJ2)))])) H1 → va_D A (zw G MS 51 am sm.1 sm.2 ++ (zw G (XS bx2) 105 a2 sx.1 sx.2 ++ [(qo, .inl (G.2.2.2.2.1, 1, .inr (.inl fJ2)))])) → va_S A s.heap H1 locs1 → lv_has ls1 8 [(0, .ref b), (1, .ref (a2 0)), (2, .ref (am 0)), (3, .ref qo), (4, .int iv)] → W p l e room_1 s m #[Value.ref b] below meth c H1 locs1 (cN + 10) (sN + 60) (lw_Z below #[Value.ref b] s) (F0 m 1511 ls1 [])) : W p l e room_1 s m #[Value.ref b] below meth c H locs cN sN (lw_Z below #[Value.ref b] s) (F0 m 764 ls []) := by
  obtain ⟨hx, hb, hr, -, -, -, hX, hbl, hlocks, -⟩ := id C0
  have hbA : ¬ A b := by rw [hA]; exact Nat.not_le.mpr hbl
  refine W.widen (k := cN + 0) (n := sN + 0) (Nat.le_refl _) (Nat.le_refl _) ?_
  refine lv_aload_n hx hb dL_law_764 rfl (lv_at hl 1 rfl) ?_
  refine lv_aload_n hx hb dL_law_765 rfl (lv_at hl 0 rfl) ?_
  refine lv_iload hx hb dL_law_766 (lv_at hl 4 rfl) ?_
  refine lv_iconst (v := 1) hx hb dL_law_768 (by decide) ?_
  refine lv_iadd hx hb dL_law_769 ?_
  refine l_sld (k := 1) hx hb hX hbl hbA hS hi (by decide) (l_lt hN rfl) hN2 dL_law_770 ?_
  refine lv_aload_n hx hb dL_law_771 rfl (lv_at hl 3 rfl) ?_
  have hP := swp_P hP
  have hD := swp_D hD
  refine a_callHi (wc := zw G (XS bx) 105 a g L ++ [(qo, .inl (G.2.2.2.2.1, 1, .inr (.inl fJ)))]) (wr := zw G MS 51 am gm Lm) (rest := []) li_L_164 C (wL_gap l hst G H.size bx a fu g L (xs (i + 1)) qo fJ rx sx hxx hE) ⟨(Nat.le_of_ble_eq_true rfl), (Nat.le_of_ble_eq_true rfl), (show cN + 0 + 2 ≤ 601024 from l_le hcN rfl), (show sN + 0 + 12 ≤ 7293033 from l_le hsN rfl)⟩ hP hD hS rfl hl.1 rfl (Nat.le_of_ble_eq_true rfl) dL_law_772 (fun k_ u_ H locs hwx_ hP hD hS => ?_)
  have hP := swp_P hP
  have hD := swp_D hD
  refine W.widen (k := cN + 2) (n := sN + 12) (Nat.le_refl _) (Nat.le_refl _) ?_
  have hP : va_P G.1 vwCl (zw G MS 51 am gm Lm ++ (zw G (XS bx) 105 a sx.1 sx.2 ++ [(qo, .inl (G.2.2.2.2.1, 1, .inr (.inl u_)))])) H := hP
  have hD : va_D A (zw G MS 51 am gm Lm ++ (zw G (XS bx) 105 a sx.1 sx.2 ++ [(qo, .inl (G.2.2.2.2.1, 1, .inr (.inl u_)))])) := hD
  refine lv_istore (lv' := [(5, .int k_), (0, .ref b), (1, .ref (a 0)), (2, .ref (am 0)), (3, .ref qo), (4, .int iv)]) hx hb dL_law_775 hl (by decide) rfl (fun ls hl => ?_)
  refine lv_aload_n hx hb dL_law_777 rfl (lv_at hl 3 rfl) ?_
  refine lv_aload_n hx hb dL_law_778 rfl (lv_at hl 1 rfl) ?_
  refine lv_iload hx hb dL_law_779 (lv_at hl 5 rfl) ?_
  refine lv_iconst (v := 1) hx hb dL_law_781 (by decide) ?_
  refine lv_iadd hx hb dL_law_782 ?_
  refine l_sld (k := 1) hx hb hX hbl hbA hS hi (by decide) (l_lt hN rfl) hN2 dL_law_783 ?_
  refine a_callVi (wr := zw G (XS bx) 105 a sx.1 sx.2 ++ [(qo, .inl (G.2.2.2.2.1, 1, .inr (.inl u_)))]) (rest := []) li_L_166 C (rX12_gap l G H.size am fu gm Lm (xs (i + 1)) rm sm hm) ⟨(Nat.le_of_ble_eq_true rfl), (Nat.le_of_ble_eq_true rfl), (show cN + 2 + 0 ≤ 601024 from l_le hcN rfl), (show sN + 12 + 0 ≤ 7293033 from l_le hsN rfl)⟩ hP hD hS 0 12 rfl (zat (by decide) ms_0) rfl hl.1 rfl (Nat.le_of_ble_eq_true rfl) dL_law_784 (fun r_ um_ H locs hw_ hP hD hS => ?_)
  obtain rfl : rm = r_ := (show r_ = rm from hw_).symm
  refine W.widen (k := cN + 2) (n := sN + 12) (Nat.le_refl _) (Nat.le_refl _) ?_
  have hP : va_P G.1 vwCl (zw G MS 51 am sm.1 sm.2 ++ (zw G (XS bx) 105 a sx.1 sx.2 ++ [(qo, .inl (G.2.2.2.2.1, 1, .inr (.inl u_)))])) H := hP
  have hD : va_D A (zw G MS 51 am sm.1 sm.2 ++ (zw G (XS bx) 105 a sx.1 sx.2 ++ [(qo, .inl (G.2.2.2.2.1, 1, .inr (.inl u_)))])) := hD
  refine lv_istore (lv' := [(6, .int rm), (5, .int k_), (0, .ref b), (1, .ref (a 0)), (2, .ref (am 0)), (3, .ref qo), (4, .int iv)]) hx hb dL_law_787 hl (by decide) rfl (fun ls hl => ?_)
  refine lv_goto (tgt := 1511) hx hb dL_law_789 (by decide) ?_
  refine W.widen (k := cN + 10) (n := sN + 60) (by omega) (by omega) ?_
  exact kk bx a u_ H locs ls hP hD hS (lv_sub hl [2, 3, 4, 5, 6] rfl)
set_option maxHeartbeats 4000000 in
set_option maxRecDepth 100000 in
theorem law_15 {p : Program} {e : Env} {s : State} {m : MethodId} {below : List Frame} {meth : Method} {c : Code} {l : Launch} (hst : l.stackTraces = false) {b N : Nat} {xs : Nat → Int32} {G : kG} {A : Nat → Prop} (hN2 : N ≤ 3072) (C0 : lw_At p s m meth c b N xs) (hA : A = fun q : Nat => s.heap.size ≤ q) (C : kC G p s m c cL_law 8 RL A) {i : Nat} {iv : Int32} (hi : iv.toInt = (i : Int)) (hN : i + 6 ≤ N) {bx : Nat} {a am : Nat → Nat} {fu : Nat} {g gm : Nat → Nat → Int32} {L Lm : Nat → Nat → Int64} {qo : Nat} {fJ : Nat → Int64} {cN sN : Nat} (hcN : cN + 10 ≤ 601024) (hsN : sN + 60 ≤ 7293033) {rx : Except String Int64} {sx : zS} {rm : Int64} {sm : zS} (hxx : fX11_chance_0 fu (xs (i + 1)) (xs (i + 2)) (xs (i + 3)) g L = some (rx, sx)) (hE : ∀ E, rx = .error E → E = "java/util/NoSuchElementException" ∨ E = "java/lang/IllegalArgumentException") (hm : fX12_chance fu (xs (i + 1)) (xs (i + 2)) (xs (i + 3)) gm Lm = some (rm, sm)) {H : Heap} {locs : List Loc} {ls : Array Slot} (hP : va_P G.1 vwCl (zw G MS 51 am gm Lm ++ (zw G (XS bx) 105 a g L ++ [(qo, .inl (G.2.2.2.2.1, 1, .inr (.inl fJ)))])) H) (hD : va_D A (zw G MS 51 am gm Lm ++ (zw G (XS bx) 105 a g L ++ [(qo, .inl (G.2.2.2.2.1, 1, .inr (.inl fJ)))]))) (hS : va_S A s.heap H locs) (hl : lv_has ls 8 [(0, .ref b), (1, .ref (a 0)), (2, .ref (am 0)), (3, .ref qo), (4, .int iv)]) (kk : ∀ (bx2 : Nat) (a2 : Nat → Nat) (fJ2 : Nat → Int64) (H1 : Heap) (locs1 : List Loc) (ls1 : Array Slot), va_P G.1 vwCl (zw G MS 51 am sm.1 sm.2 ++ (zw G (XS bx2) 105 a2 sx.1 sx.2 ++ [(qo, .inl (G.2.2.2.2.1, 1, .inr (.inl fJ2)))])) H1 → va_D A (zw G MS 51 am sm.1 sm.2 ++ (zw G (XS bx2) 105 a2 sx.1 sx.2 ++ [(qo, .inl (G.2.2.2.2.1, 1, .inr (.inl fJ2)))])) → va_S A s.heap H1 locs1 → lv_has ls1 8 [(0, .ref b), (1, .ref (a2 0)), (2, .ref (am 0)), (3, .ref qo), (4, .int iv)] → W p l e room_1 s m #[Value.ref b] below meth c H1 locs1 (cN + 10) (sN + 60) (lw_Z below #[Value.ref b] s) (F0 m 1511 ls1 [])) : W p l e room_1 s m #[Value.ref b] below meth c H locs cN sN (lw_Z below #[Value.ref b] s) (F0 m 792 ls []) := by
  obtain ⟨hx, hb, hr, -, -, -, hX, hbl, hlocks, -⟩ := id C0
  have hbA : ¬ A b := by rw [hA]; exact Nat.not_le.mpr hbl
  refine W.widen (k := cN + 0) (n := sN + 0) (Nat.le_refl _) (Nat.le_refl _) ?_
  refine lv_aload_n hx hb dL_law_792 rfl (lv_at hl 1 rfl) ?_
  refine lv_aload_n hx hb dL_law_793 rfl (lv_at hl 0 rfl) ?_
  refine lv_iload hx hb dL_law_794 (lv_at hl 4 rfl) ?_
  refine lv_iconst (v := 1) hx hb dL_law_796 (by decide) ?_
  refine lv_iadd hx hb dL_law_797 ?_
  refine l_sld (k := 1) hx hb hX hbl hbA hS hi (by decide) (l_lt hN rfl) hN2 dL_law_798 ?_
  refine lv_aload_n hx hb dL_law_799 rfl (lv_at hl 0 rfl) ?_
  refine lv_iload hx hb dL_law_800 (lv_at hl 4 rfl) ?_
  refine lv_iconst (v := 2) hx hb dL_law_802 (by decide) ?_
  refine lv_iadd hx hb dL_law_803 ?_
  refine l_sld (k := 2) hx hb hX hbl hbA hS hi (by decide) (l_lt hN rfl) hN2 dL_law_804 ?_
  refine lv_aload_n hx hb dL_law_805 rfl (lv_at hl 0 rfl) ?_
  refine lv_iload hx hb dL_law_806 (lv_at hl 4 rfl) ?_
  refine lv_iconst (v := 3) hx hb dL_law_808 (by decide) ?_
  refine lv_iadd hx hb dL_law_809 ?_
  refine l_sld (k := 3) hx hb hX hbl hbA hS hi (by decide) (l_lt hN rfl) hN2 dL_law_810 ?_
  refine lv_aload_n hx hb dL_law_811 rfl (lv_at hl 3 rfl) ?_
  have hP := swp_P hP
  have hD := swp_D hD
  refine a_callHi (wc := zw G (XS bx) 105 a g L ++ [(qo, .inl (G.2.2.2.2.1, 1, .inr (.inl fJ)))]) (wr := zw G MS 51 am gm Lm) (rest := []) li_L_167 C (wL_chance l hst G H.size bx a fu g L (xs (i + 1)) (xs (i + 2)) (xs (i + 3)) qo fJ rx sx hxx hE) ⟨(Nat.le_of_ble_eq_true rfl), (Nat.le_of_ble_eq_true rfl), (show cN + 0 + 3 ≤ 601024 from l_le hcN rfl), (show sN + 0 + 18 ≤ 7293033 from l_le hsN rfl)⟩ hP hD hS rfl hl.1 rfl (Nat.le_of_ble_eq_true rfl) dL_law_812 (fun k_ u_ H locs hwx_ hP hD hS => ?_)
  have hP := swp_P hP
  have hD := swp_D hD
  refine W.widen (k := cN + 3) (n := sN + 18) (Nat.le_refl _) (Nat.le_refl _) ?_
  have hP : va_P G.1 vwCl (zw G MS 51 am gm Lm ++ (zw G (XS bx) 105 a sx.1 sx.2 ++ [(qo, .inl (G.2.2.2.2.1, 1, .inr (.inl u_)))])) H := hP
  have hD : va_D A (zw G MS 51 am gm Lm ++ (zw G (XS bx) 105 a sx.1 sx.2 ++ [(qo, .inl (G.2.2.2.2.1, 1, .inr (.inl u_)))])) := hD
  refine lv_istore (lv' := [(5, .int k_), (0, .ref b), (1, .ref (a 0)), (2, .ref (am 0)), (3, .ref qo), (4, .int iv)]) hx hb dL_law_815 hl (by decide) rfl (fun ls hl => ?_)
  refine lv_aload_n hx hb dL_law_817 rfl (lv_at hl 3 rfl) ?_
  refine lv_aload_n hx hb dL_law_818 rfl (lv_at hl 1 rfl) ?_
  refine lv_iload hx hb dL_law_819 (lv_at hl 5 rfl) ?_
  refine lv_iconst (v := 1) hx hb dL_law_821 (by decide) ?_
  refine lv_iadd hx hb dL_law_822 ?_
  refine l_sld (k := 1) hx hb hX hbl hbA hS hi (by decide) (l_lt hN rfl) hN2 dL_law_823 ?_
  refine lv_aload_n hx hb dL_law_824 rfl (lv_at hl 1 rfl) ?_
  refine lv_iload hx hb dL_law_825 (lv_at hl 5 rfl) ?_
  refine lv_iconst (v := 2) hx hb dL_law_827 (by decide) ?_
  refine lv_iadd hx hb dL_law_828 ?_
  refine l_sld (k := 2) hx hb hX hbl hbA hS hi (by decide) (l_lt hN rfl) hN2 dL_law_829 ?_
  refine lv_aload_n hx hb dL_law_830 rfl (lv_at hl 1 rfl) ?_
  refine lv_iload hx hb dL_law_831 (lv_at hl 5 rfl) ?_
  refine lv_iconst (v := 3) hx hb dL_law_833 (by decide) ?_
  refine lv_iadd hx hb dL_law_834 ?_
  refine l_sld (k := 3) hx hb hX hbl hbA hS hi (by decide) (l_lt hN rfl) hN2 dL_law_835 ?_
  refine a_callVl (wr := zw G (XS bx) 105 a sx.1 sx.2 ++ [(qo, .inl (G.2.2.2.2.1, 1, .inr (.inl u_)))]) (rest := []) li_L_169 C (rX12_chance l G H.size am fu gm Lm (xs (i + 1)) (xs (i + 2)) (xs (i + 3)) rm sm hm) ⟨(Nat.le_of_ble_eq_true rfl), (Nat.le_of_ble_eq_true rfl), (show cN + 3 + 0 ≤ 601024 from l_le hcN rfl), (show sN + 18 + 0 ≤ 7293033 from l_le hsN rfl)⟩ hP hD hS 0 12 rfl (zat (by decide) ms_0) rfl hl.1 rfl (Nat.le_of_ble_eq_true rfl) dL_law_836 (fun r_ um_ H locs hw_ hP hD hS => ?_)
  obtain rfl : rm = r_ := (show r_ = rm from hw_).symm
  refine W.widen (k := cN + 3) (n := sN + 18) (Nat.le_refl _) (Nat.le_refl _) ?_
  have hP : va_P G.1 vwCl (zw G MS 51 am sm.1 sm.2 ++ (zw G (XS bx) 105 a sx.1 sx.2 ++ [(qo, .inl (G.2.2.2.2.1, 1, .inr (.inl u_)))])) H := hP
  have hD : va_D A (zw G MS 51 am sm.1 sm.2 ++ (zw G (XS bx) 105 a sx.1 sx.2 ++ [(qo, .inl (G.2.2.2.2.1, 1, .inr (.inl u_)))])) := hD
  refine lv_lstore (lv' := [(6, .long rm), (5, .int k_), (0, .ref b), (1, .ref (a 0)), (2, .ref (am 0)), (3, .ref qo), (4, .int iv)]) hx hb dL_law_839 hl (by decide) rfl (fun ls hl => ?_)
  refine lv_goto (tgt := 1511) hx hb dL_law_841 (by decide) ?_
  refine W.widen (k := cN + 10) (n := sN + 60) (by omega) (by omega) ?_
  exact kk bx a u_ H locs ls hP hD hS (lv_sub hl [2, 3, 4, 5, 6] rfl)
set_option maxHeartbeats 4000000 in
set_option maxRecDepth 100000 in
theorem law_16 {p : Program} {e : Env} {s : State} {m : MethodId} {below : List Frame} {meth : Method} {c : Code} {l : Launch} (hst : l.stackTraces = false) {b N : Nat} {xs : Nat → Int32} {G : kG} {A : Nat → Prop} (hN2 : N ≤ 3072) (C0 : lw_At p s m meth c b N xs) (hA : A = fun q : Nat => s.heap.size ≤ q) (C : kC G p s m c cL_law 8 RL A) {i : Nat} {iv : Int32} (hi : iv.toInt = (i : Int)) (hN : i + 6 ≤ N) {bx : Nat} {a am : Nat → Nat} {fu : Nat} {g gm : Nat → Nat → Int32} {L Lm : Nat → Nat → Int64} {qo : Nat} {fJ : Nat → Int64} {cN sN : Nat} (hcN : cN + 10 ≤ 601024) (hsN : sN + 60 ≤ 7293033) {rx : Except String Int64} {sx : zS} {rm : Int64} {sm : zS} (hxx : fX11_mean_0 fu (xs (i + 1)) (xs (i + 2)) g L = some (rx, sx)) (hE : ∀ E, rx = .error E → E = "java/util/NoSuchElementException") (hm : fX12_mean fu (xs (i + 1)) (xs (i + 2)) gm Lm = some (rm, sm)) {H : Heap} {locs : List Loc} {ls : Array Slot} (hP : va_P G.1 vwCl (zw G MS 51 am gm Lm ++ (zw G (XS bx) 105 a g L ++ [(qo, .inl (G.2.2.2.2.1, 1, .inr (.inl fJ)))])) H) (hD : va_D A (zw G MS 51 am gm Lm ++ (zw G (XS bx) 105 a g L ++ [(qo, .inl (G.2.2.2.2.1, 1, .inr (.inl fJ)))]))) (hS : va_S A s.heap H locs) (hl : lv_has ls 8 [(0, .ref b), (1, .ref (a 0)), (2, .ref (am 0)), (3, .ref qo), (4, .int iv)]) (kk : ∀ (bx2 : Nat) (a2 : Nat → Nat) (fJ2 : Nat → Int64) (H1 : Heap) (locs1 : List Loc) (ls1 : Array Slot), va_P G.1 vwCl (zw G MS 51 am sm.1 sm.2 ++ (zw G (XS bx2) 105 a2 sx.1 sx.2 ++ [(qo, .inl (G.2.2.2.2.1, 1, .inr (.inl fJ2)))])) H1 → va_D A (zw G MS 51 am sm.1 sm.2 ++ (zw G (XS bx2) 105 a2 sx.1 sx.2 ++ [(qo, .inl (G.2.2.2.2.1, 1, .inr (.inl fJ2)))])) → va_S A s.heap H1 locs1 → lv_has ls1 8 [(0, .ref b), (1, .ref (a2 0)), (2, .ref (am 0)), (3, .ref qo), (4, .int iv)] → W p l e room_1 s m #[Value.ref b] below meth c H1 locs1 (cN + 10) (sN + 60) (lw_Z below #[Value.ref b] s) (F0 m 1511 ls1 [])) : W p l e room_1 s m #[Value.ref b] below meth c H locs cN sN (lw_Z below #[Value.ref b] s) (F0 m 844 ls []) := by
  obtain ⟨hx, hb, hr, -, -, -, hX, hbl, hlocks, -⟩ := id C0
  have hbA : ¬ A b := by rw [hA]; exact Nat.not_le.mpr hbl
  refine W.widen (k := cN + 0) (n := sN + 0) (Nat.le_refl _) (Nat.le_refl _) ?_
  refine lv_aload_n hx hb dL_law_844 rfl (lv_at hl 1 rfl) ?_
  refine lv_aload_n hx hb dL_law_845 rfl (lv_at hl 0 rfl) ?_
  refine lv_iload hx hb dL_law_846 (lv_at hl 4 rfl) ?_
  refine lv_iconst (v := 1) hx hb dL_law_848 (by decide) ?_
  refine lv_iadd hx hb dL_law_849 ?_
  refine l_sld (k := 1) hx hb hX hbl hbA hS hi (by decide) (l_lt hN rfl) hN2 dL_law_850 ?_
  refine lv_aload_n hx hb dL_law_851 rfl (lv_at hl 0 rfl) ?_
  refine lv_iload hx hb dL_law_852 (lv_at hl 4 rfl) ?_
  refine lv_iconst (v := 2) hx hb dL_law_854 (by decide) ?_
  refine lv_iadd hx hb dL_law_855 ?_
  refine l_sld (k := 2) hx hb hX hbl hbA hS hi (by decide) (l_lt hN rfl) hN2 dL_law_856 ?_
  refine lv_aload_n hx hb dL_law_857 rfl (lv_at hl 3 rfl) ?_
  have hP := swp_P hP
  have hD := swp_D hD
  refine a_callHi (wc := zw G (XS bx) 105 a g L ++ [(qo, .inl (G.2.2.2.2.1, 1, .inr (.inl fJ)))]) (wr := zw G MS 51 am gm Lm) (rest := []) li_L_170 C (wL_mean l hst G H.size bx a fu g L (xs (i + 1)) (xs (i + 2)) qo fJ rx sx hxx hE) ⟨(Nat.le_of_ble_eq_true rfl), (Nat.le_of_ble_eq_true rfl), (show cN + 0 + 2 ≤ 601024 from l_le hcN rfl), (show sN + 0 + 12 ≤ 7293033 from l_le hsN rfl)⟩ hP hD hS rfl hl.1 rfl (Nat.le_of_ble_eq_true rfl) dL_law_858 (fun k_ u_ H locs hwx_ hP hD hS => ?_)
  have hP := swp_P hP
  have hD := swp_D hD
  refine W.widen (k := cN + 2) (n := sN + 12) (Nat.le_refl _) (Nat.le_refl _) ?_
  have hP : va_P G.1 vwCl (zw G MS 51 am gm Lm ++ (zw G (XS bx) 105 a sx.1 sx.2 ++ [(qo, .inl (G.2.2.2.2.1, 1, .inr (.inl u_)))])) H := hP
  have hD : va_D A (zw G MS 51 am gm Lm ++ (zw G (XS bx) 105 a sx.1 sx.2 ++ [(qo, .inl (G.2.2.2.2.1, 1, .inr (.inl u_)))])) := hD
  refine lv_istore (lv' := [(5, .int k_), (0, .ref b), (1, .ref (a 0)), (2, .ref (am 0)), (3, .ref qo), (4, .int iv)]) hx hb dL_law_861 hl (by decide) rfl (fun ls hl => ?_)
  refine lv_aload_n hx hb dL_law_863 rfl (lv_at hl 3 rfl) ?_
  refine lv_aload_n hx hb dL_law_864 rfl (lv_at hl 1 rfl) ?_
  refine lv_iload hx hb dL_law_865 (lv_at hl 5 rfl) ?_
  refine lv_iconst (v := 1) hx hb dL_law_867 (by decide) ?_
  refine lv_iadd hx hb dL_law_868 ?_
  refine l_sld (k := 1) hx hb hX hbl hbA hS hi (by decide) (l_lt hN rfl) hN2 dL_law_869 ?_
  refine lv_aload_n hx hb dL_law_870 rfl (lv_at hl 1 rfl) ?_
  refine lv_iload hx hb dL_law_871 (lv_at hl 5 rfl) ?_
  refine lv_iconst (v := 2) hx hb dL_law_873 (by decide) ?_
  refine lv_iadd hx hb dL_law_874 ?_
  refine l_sld (k := 2) hx hb hX hbl hbA hS hi (by decide) (l_lt hN rfl) hN2 dL_law_875 ?_
  refine a_callVl (wr := zw G (XS bx) 105 a sx.1 sx.2 ++ [(qo, .inl (G.2.2.2.2.1, 1, .inr (.inl u_)))]) (rest := []) li_L_172 C (rX12_mean l G H.size am fu gm Lm (xs (i + 1)) (xs (i + 2)) rm sm hm) ⟨(Nat.le_of_ble_eq_true rfl), (Nat.le_of_ble_eq_true rfl), (show cN + 2 + 0 ≤ 601024 from l_le hcN rfl), (show sN + 12 + 0 ≤ 7293033 from l_le hsN rfl)⟩ hP hD hS 0 12 rfl (zat (by decide) ms_0) rfl hl.1 rfl (Nat.le_of_ble_eq_true rfl) dL_law_876 (fun r_ um_ H locs hw_ hP hD hS => ?_)
  obtain rfl : rm = r_ := (show r_ = rm from hw_).symm
  refine W.widen (k := cN + 2) (n := sN + 12) (Nat.le_refl _) (Nat.le_refl _) ?_
  have hP : va_P G.1 vwCl (zw G MS 51 am sm.1 sm.2 ++ (zw G (XS bx) 105 a sx.1 sx.2 ++ [(qo, .inl (G.2.2.2.2.1, 1, .inr (.inl u_)))])) H := hP
  have hD : va_D A (zw G MS 51 am sm.1 sm.2 ++ (zw G (XS bx) 105 a sx.1 sx.2 ++ [(qo, .inl (G.2.2.2.2.1, 1, .inr (.inl u_)))])) := hD
  refine lv_lstore (lv' := [(6, .long rm), (5, .int k_), (0, .ref b), (1, .ref (a 0)), (2, .ref (am 0)), (3, .ref qo), (4, .int iv)]) hx hb dL_law_879 hl (by decide) rfl (fun ls hl => ?_)
  refine lv_goto (tgt := 1511) hx hb dL_law_881 (by decide) ?_
  refine W.widen (k := cN + 10) (n := sN + 60) (by omega) (by omega) ?_
  exact kk bx a u_ H locs ls hP hD hS (lv_sub hl [2, 3, 4, 5, 6] rfl)
set_option maxHeartbeats 4000000 in
set_option maxRecDepth 100000 in
theorem law_17 {p : Program} {e : Env} {s : State} {m : MethodId} {below : List Frame} {meth : Method} {c : Code} {l : Launch} (hst : l.stackTraces = false) {b N : Nat} {xs : Nat → Int32} {G : kG} {A : Nat → Prop} (hN2 : N ≤ 3072) (C0 : lw_At p s m meth c b N xs) (hA : A = fun q : Nat => s.heap.size ≤ q) (C : kC G p s m c cL_law 8 RL A) {i : Nat} {iv : Int32} (hi : iv.toInt = (i : Int)) (hN : i + 6 ≤ N) {bx : Nat} {a am : Nat → Nat} {fu : Nat} {g gm : Nat → Nat → Int32} {L Lm : Nat → Nat → Int64} {qo : Nat} {fJ : Nat → Int64} {cN sN : Nat} (hcN : cN + 10 ≤ 601024) (hsN : sN + 60 ≤ 7293033) {rx : Except String Int32} {sx : zS} {rm : Int32} {sm : zS} (hxx : fX11_swap_0 fu (xs (i + 1)) g L = some (rx, sx)) (hE : ∀ E, rx = .error E → E = "java/util/NoSuchElementException") (hm : fX12_swap fu (xs (i + 1)) gm Lm = some (rm, sm)) {H : Heap} {locs : List Loc} {ls : Array Slot} (hP : va_P G.1 vwCl (zw G MS 51 am gm Lm ++ (zw G (XS bx) 105 a g L ++ [(qo, .inl (G.2.2.2.2.1, 1, .inr (.inl fJ)))])) H) (hD : va_D A (zw G MS 51 am gm Lm ++ (zw G (XS bx) 105 a g L ++ [(qo, .inl (G.2.2.2.2.1, 1, .inr (.inl fJ)))]))) (hS : va_S A s.heap H locs) (hl : lv_has ls 8 [(0, .ref b), (1, .ref (a 0)), (2, .ref (am 0)), (3, .ref qo), (4, .int iv)]) (kk : ∀ (bx2 : Nat) (a2 : Nat → Nat) (fJ2 : Nat → Int64) (H1 : Heap) (locs1 : List Loc) (ls1 : Array Slot), va_P G.1 vwCl (zw G MS 51 am sm.1 sm.2 ++ (zw G (XS bx2) 105 a2 sx.1 sx.2 ++ [(qo, .inl (G.2.2.2.2.1, 1, .inr (.inl fJ2)))])) H1 → va_D A (zw G MS 51 am sm.1 sm.2 ++ (zw G (XS bx2) 105 a2 sx.1 sx.2 ++ [(qo, .inl (G.2.2.2.2.1, 1, .inr (.inl fJ2)))])) → va_S A s.heap H1 locs1 → lv_has ls1 8 [(0, .ref b), (1, .ref (a2 0)), (2, .ref (am 0)), (3, .ref qo), (4, .int iv)] → W p l e room_1 s m #[Value.ref b] below meth c H1 locs1 (cN + 10) (sN + 60) (lw_Z below #[Value.ref b] s) (F0 m 1511 ls1 [])) : W p l e room_1 s m #[Value.ref b] below meth c H locs cN sN (lw_Z below #[Value.ref b] s) (F0 m 884 ls []) := by
  obtain ⟨hx, hb, hr, -, -, -, hX, hbl, hlocks, -⟩ := id C0
  have hbA : ¬ A b := by rw [hA]; exact Nat.not_le.mpr hbl
  refine W.widen (k := cN + 0) (n := sN + 0) (Nat.le_refl _) (Nat.le_refl _) ?_
  refine lv_aload_n hx hb dL_law_884 rfl (lv_at hl 1 rfl) ?_
  refine lv_aload_n hx hb dL_law_885 rfl (lv_at hl 0 rfl) ?_
  refine lv_iload hx hb dL_law_886 (lv_at hl 4 rfl) ?_
  refine lv_iconst (v := 1) hx hb dL_law_888 (by decide) ?_
  refine lv_iadd hx hb dL_law_889 ?_
  refine l_sld (k := 1) hx hb hX hbl hbA hS hi (by decide) (l_lt hN rfl) hN2 dL_law_890 ?_
  refine lv_aload_n hx hb dL_law_891 rfl (lv_at hl 3 rfl) ?_
  have hP := swp_P hP
  have hD := swp_D hD
  refine a_callHi (wc := zw G (XS bx) 105 a g L ++ [(qo, .inl (G.2.2.2.2.1, 1, .inr (.inl fJ)))]) (wr := zw G MS 51 am gm Lm) (rest := []) li_L_173 C (wL_swap l hst G H.size bx a fu g L (xs (i + 1)) qo fJ rx sx hxx hE) ⟨(Nat.le_of_ble_eq_true rfl), (Nat.le_of_ble_eq_true rfl), (show cN + 0 + 1 ≤ 601024 from l_le hcN rfl), (show sN + 0 + 6 ≤ 7293033 from l_le hsN rfl)⟩ hP hD hS rfl hl.1 rfl (Nat.le_of_ble_eq_true rfl) dL_law_892 (fun k_ u_ H locs hwx_ hP hD hS => ?_)
  have hP := swp_P hP
  have hD := swp_D hD
  refine W.widen (k := cN + 1) (n := sN + 6) (Nat.le_refl _) (Nat.le_refl _) ?_
  have hP : va_P G.1 vwCl (zw G MS 51 am gm Lm ++ (zw G (XS bx) 105 a sx.1 sx.2 ++ [(qo, .inl (G.2.2.2.2.1, 1, .inr (.inl u_)))])) H := hP
  have hD : va_D A (zw G MS 51 am gm Lm ++ (zw G (XS bx) 105 a sx.1 sx.2 ++ [(qo, .inl (G.2.2.2.2.1, 1, .inr (.inl u_)))])) := hD
  refine lv_istore (lv' := [(5, .int k_), (0, .ref b), (1, .ref (a 0)), (2, .ref (am 0)), (3, .ref qo), (4, .int iv)]) hx hb dL_law_895 hl (by decide) rfl (fun ls hl => ?_)
  refine lv_aload_n hx hb dL_law_897 rfl (lv_at hl 3 rfl) ?_
  refine lv_aload_n hx hb dL_law_898 rfl (lv_at hl 1 rfl) ?_
  refine lv_iload hx hb dL_law_899 (lv_at hl 5 rfl) ?_
  refine lv_iconst (v := 1) hx hb dL_law_901 (by decide) ?_
  refine lv_iadd hx hb dL_law_902 ?_
  refine l_sld (k := 1) hx hb hX hbl hbA hS hi (by decide) (l_lt hN rfl) hN2 dL_law_903 ?_
  refine a_callVi (wr := zw G (XS bx) 105 a sx.1 sx.2 ++ [(qo, .inl (G.2.2.2.2.1, 1, .inr (.inl u_)))]) (rest := []) li_L_175 C (rX12_swap l G H.size am fu gm Lm (xs (i + 1)) rm sm hm) ⟨(Nat.le_of_ble_eq_true rfl), (Nat.le_of_ble_eq_true rfl), (show cN + 1 + 0 ≤ 601024 from l_le hcN rfl), (show sN + 6 + 0 ≤ 7293033 from l_le hsN rfl)⟩ hP hD hS 0 12 rfl (zat (by decide) ms_0) rfl hl.1 rfl (Nat.le_of_ble_eq_true rfl) dL_law_904 (fun r_ um_ H locs hw_ hP hD hS => ?_)
  obtain rfl : rm = r_ := (show r_ = rm from hw_).symm
  refine W.widen (k := cN + 1) (n := sN + 6) (Nat.le_refl _) (Nat.le_refl _) ?_
  have hP : va_P G.1 vwCl (zw G MS 51 am sm.1 sm.2 ++ (zw G (XS bx) 105 a sx.1 sx.2 ++ [(qo, .inl (G.2.2.2.2.1, 1, .inr (.inl u_)))])) H := hP
  have hD : va_D A (zw G MS 51 am sm.1 sm.2 ++ (zw G (XS bx) 105 a sx.1 sx.2 ++ [(qo, .inl (G.2.2.2.2.1, 1, .inr (.inl u_)))])) := hD
  refine lv_istore (lv' := [(6, .int rm), (5, .int k_), (0, .ref b), (1, .ref (a 0)), (2, .ref (am 0)), (3, .ref qo), (4, .int iv)]) hx hb dL_law_907 hl (by decide) rfl (fun ls hl => ?_)
  refine lv_goto (tgt := 1511) hx hb dL_law_909 (by decide) ?_
  refine W.widen (k := cN + 10) (n := sN + 60) (by omega) (by omega) ?_
  exact kk bx a u_ H locs ls hP hD hS (lv_sub hl [2, 3, 4, 5, 6] rfl)
set_option maxHeartbeats 4000000 in
set_option maxRecDepth 100000 in
theorem law_18 {p : Program} {e : Env} {s : State} {m : MethodId} {below : List Frame} {meth : Method} {c : Code} {l : Launch} (hst : l.stackTraces = false) {b N : Nat} {xs : Nat → Int32} {G : kG} {A : Nat → Prop} (hN2 : N ≤ 3072) (C0 : lw_At p s m meth c b N xs) (hA : A = fun q : Nat => s.heap.size ≤ q) (C : kC G p s m c cL_law 8 RL A) {i : Nat} {iv : Int32} (hi : iv.toInt = (i : Int)) (hN : i + 6 ≤ N) {bx : Nat} {a am : Nat → Nat} {fu : Nat} {g gm : Nat → Nat → Int32} {L Lm : Nat → Nat → Int64} {qo : Nat} {fJ : Nat → Int64} {cN sN : Nat} (hcN : cN + 10 ≤ 601024) (hsN : sN + 60 ≤ 7293033) {rx : Except String Int32} {sx : zS} {rm : Int32} {sm : zS} (hxx : fX11_room_0 fu (xs (i + 1)) (xs (i + 2)) g L = some (rx, sx)) (hE : ∀ E, rx = .error E → E = "java/util/NoSuchElementException") (hm : fX12_room fu (xs (i + 1)) (xs (i + 2)) gm Lm = some (rm, sm)) {H : Heap} {locs : List Loc} {ls : Array Slot} (hP : va_P G.1 vwCl (zw G MS 51 am gm Lm ++ (zw G (XS bx) 105 a g L ++ [(qo, .inl (G.2.2.2.2.1, 1, .inr (.inl fJ)))])) H) (hD : va_D A (zw G MS 51 am gm Lm ++ (zw G (XS bx) 105 a g L ++ [(qo, .inl (G.2.2.2.2.1, 1, .inr (.inl fJ)))]))) (hS : va_S A s.heap H locs) (hl : lv_has ls 8 [(0, .ref b), (1, .ref (a 0)), (2, .ref (am 0)), (3, .ref qo), (4, .int iv)]) (kk : ∀ (bx2 : Nat) (a2 : Nat → Nat) (fJ2 : Nat → Int64) (H1 : Heap) (locs1 : List Loc) (ls1 : Array Slot), va_P G.1 vwCl (zw G MS 51 am sm.1 sm.2 ++ (zw G (XS bx2) 105 a2 sx.1 sx.2 ++ [(qo, .inl (G.2.2.2.2.1, 1, .inr (.inl fJ2)))])) H1 → va_D A (zw G MS 51 am sm.1 sm.2 ++ (zw G (XS bx2) 105 a2 sx.1 sx.2 ++ [(qo, .inl (G.2.2.2.2.1, 1, .inr (.inl fJ2)))])) → va_S A s.heap H1 locs1 → lv_has ls1 8 [(0, .ref b), (1, .ref (a2 0)), (2, .ref (am 0)), (3, .ref qo), (4, .int iv)] → W p l e room_1 s m #[Value.ref b] below meth c H1 locs1 (cN + 10) (sN + 60) (lw_Z below #[Value.ref b] s) (F0 m 1511 ls1 [])) : W p l e room_1 s m #[Value.ref b] below meth c H locs cN sN (lw_Z below #[Value.ref b] s) (F0 m 912 ls []) := by
  obtain ⟨hx, hb, hr, -, -, -, hX, hbl, hlocks, -⟩ := id C0
  have hbA : ¬ A b := by rw [hA]; exact Nat.not_le.mpr hbl
  refine W.widen (k := cN + 0) (n := sN + 0) (Nat.le_refl _) (Nat.le_refl _) ?_
  refine lv_aload_n hx hb dL_law_912 rfl (lv_at hl 1 rfl) ?_
  refine lv_aload_n hx hb dL_law_913 rfl (lv_at hl 0 rfl) ?_
  refine lv_iload hx hb dL_law_914 (lv_at hl 4 rfl) ?_
  refine lv_iconst (v := 1) hx hb dL_law_916 (by decide) ?_
  refine lv_iadd hx hb dL_law_917 ?_
  refine l_sld (k := 1) hx hb hX hbl hbA hS hi (by decide) (l_lt hN rfl) hN2 dL_law_918 ?_
  refine lv_aload_n hx hb dL_law_919 rfl (lv_at hl 0 rfl) ?_
  refine lv_iload hx hb dL_law_920 (lv_at hl 4 rfl) ?_
  refine lv_iconst (v := 2) hx hb dL_law_922 (by decide) ?_
  refine lv_iadd hx hb dL_law_923 ?_
  refine l_sld (k := 2) hx hb hX hbl hbA hS hi (by decide) (l_lt hN rfl) hN2 dL_law_924 ?_
  refine lv_aload_n hx hb dL_law_925 rfl (lv_at hl 3 rfl) ?_
  have hP := swp_P hP
  have hD := swp_D hD
  refine a_callHi (wc := zw G (XS bx) 105 a g L ++ [(qo, .inl (G.2.2.2.2.1, 1, .inr (.inl fJ)))]) (wr := zw G MS 51 am gm Lm) (rest := []) li_L_176 C (wL_room l hst G H.size bx a fu g L (xs (i + 1)) (xs (i + 2)) qo fJ rx sx hxx hE) ⟨(Nat.le_of_ble_eq_true rfl), (Nat.le_of_ble_eq_true rfl), (show cN + 0 + 2 ≤ 601024 from l_le hcN rfl), (show sN + 0 + 12 ≤ 7293033 from l_le hsN rfl)⟩ hP hD hS rfl hl.1 rfl (Nat.le_of_ble_eq_true rfl) dL_law_926 (fun k_ u_ H locs hwx_ hP hD hS => ?_)
  have hP := swp_P hP
  have hD := swp_D hD
  refine W.widen (k := cN + 2) (n := sN + 12) (Nat.le_refl _) (Nat.le_refl _) ?_
  have hP : va_P G.1 vwCl (zw G MS 51 am gm Lm ++ (zw G (XS bx) 105 a sx.1 sx.2 ++ [(qo, .inl (G.2.2.2.2.1, 1, .inr (.inl u_)))])) H := hP
  have hD : va_D A (zw G MS 51 am gm Lm ++ (zw G (XS bx) 105 a sx.1 sx.2 ++ [(qo, .inl (G.2.2.2.2.1, 1, .inr (.inl u_)))])) := hD
  refine lv_istore (lv' := [(5, .int k_), (0, .ref b), (1, .ref (a 0)), (2, .ref (am 0)), (3, .ref qo), (4, .int iv)]) hx hb dL_law_929 hl (by decide) rfl (fun ls hl => ?_)
  refine lv_aload_n hx hb dL_law_931 rfl (lv_at hl 3 rfl) ?_
  refine lv_aload_n hx hb dL_law_932 rfl (lv_at hl 1 rfl) ?_
  refine lv_iload hx hb dL_law_933 (lv_at hl 5 rfl) ?_
  refine lv_iconst (v := 1) hx hb dL_law_935 (by decide) ?_
  refine lv_iadd hx hb dL_law_936 ?_
  refine l_sld (k := 1) hx hb hX hbl hbA hS hi (by decide) (l_lt hN rfl) hN2 dL_law_937 ?_
  refine lv_aload_n hx hb dL_law_938 rfl (lv_at hl 1 rfl) ?_
  refine lv_iload hx hb dL_law_939 (lv_at hl 5 rfl) ?_
  refine lv_iconst (v := 2) hx hb dL_law_941 (by decide) ?_
  refine lv_iadd hx hb dL_law_942 ?_
  refine l_sld (k := 2) hx hb hX hbl hbA hS hi (by decide) (l_lt hN rfl) hN2 dL_law_943 ?_
  refine a_callVi (wr := zw G (XS bx) 105 a sx.1 sx.2 ++ [(qo, .inl (G.2.2.2.2.1, 1, .inr (.inl u_)))]) (rest := []) li_L_178 C (rX12_room l G H.size am fu gm Lm (xs (i + 1)) (xs (i + 2)) rm sm hm) ⟨(Nat.le_of_ble_eq_true rfl), (Nat.le_of_ble_eq_true rfl), (show cN + 2 + 0 ≤ 601024 from l_le hcN rfl), (show sN + 12 + 0 ≤ 7293033 from l_le hsN rfl)⟩ hP hD hS 0 12 rfl (zat (by decide) ms_0) rfl hl.1 rfl (Nat.le_of_ble_eq_true rfl) dL_law_944 (fun r_ um_ H locs hw_ hP hD hS => ?_)
  obtain rfl : rm = r_ := (show r_ = rm from hw_).symm
  refine W.widen (k := cN + 2) (n := sN + 12) (Nat.le_refl _) (Nat.le_refl _) ?_
  have hP : va_P G.1 vwCl (zw G MS 51 am sm.1 sm.2 ++ (zw G (XS bx) 105 a sx.1 sx.2 ++ [(qo, .inl (G.2.2.2.2.1, 1, .inr (.inl u_)))])) H := hP
  have hD : va_D A (zw G MS 51 am sm.1 sm.2 ++ (zw G (XS bx) 105 a sx.1 sx.2 ++ [(qo, .inl (G.2.2.2.2.1, 1, .inr (.inl u_)))])) := hD
  refine lv_istore (lv' := [(6, .int rm), (5, .int k_), (0, .ref b), (1, .ref (a 0)), (2, .ref (am 0)), (3, .ref qo), (4, .int iv)]) hx hb dL_law_947 hl (by decide) rfl (fun ls hl => ?_)
  refine lv_goto (tgt := 1511) hx hb dL_law_949 (by decide) ?_
  refine W.widen (k := cN + 10) (n := sN + 60) (by omega) (by omega) ?_
  exact kk bx a u_ H locs ls hP hD hS (lv_sub hl [2, 3, 4, 5, 6] rfl)
set_option maxHeartbeats 4000000 in
set_option maxRecDepth 100000 in
theorem law_19 {p : Program} {e : Env} {s : State} {m : MethodId} {below : List Frame} {meth : Method} {c : Code} {l : Launch} (hst : l.stackTraces = false) {b N : Nat} {xs : Nat → Int32} {G : kG} {A : Nat → Prop} (hN2 : N ≤ 3072) (C0 : lw_At p s m meth c b N xs) (hA : A = fun q : Nat => s.heap.size ≤ q) (C : kC G p s m c cL_law 8 RL A) {i : Nat} {iv : Int32} (hi : iv.toInt = (i : Int)) (hN : i + 6 ≤ N) {bx : Nat} {a am : Nat → Nat} {fu : Nat} {g gm : Nat → Nat → Int32} {L Lm : Nat → Nat → Int64} {qo : Nat} {fJ : Nat → Int64} {cN sN : Nat} (hcN : cN + 10 ≤ 601024) (hsN : sN + 60 ≤ 7293033) {rx : Except String Int32} {sx : zS} {rm : Int32} {sm : zS} (hxx : fX11_limit_0 fu (xs (i + 1)) (xs (i + 2)) g L = some (rx, sx)) (hE : ∀ E, rx = .error E → E = "java/util/NoSuchElementException") (hm : fX12_limit fu (xs (i + 1)) (xs (i + 2)) gm Lm = some (rm, sm)) {H : Heap} {locs : List Loc} {ls : Array Slot} (hP : va_P G.1 vwCl (zw G MS 51 am gm Lm ++ (zw G (XS bx) 105 a g L ++ [(qo, .inl (G.2.2.2.2.1, 1, .inr (.inl fJ)))])) H) (hD : va_D A (zw G MS 51 am gm Lm ++ (zw G (XS bx) 105 a g L ++ [(qo, .inl (G.2.2.2.2.1, 1, .inr (.inl fJ)))]))) (hS : va_S A s.heap H locs) (hl : lv_has ls 8 [(0, .ref b), (1, .ref (a 0)), (2, .ref (am 0)), (3, .ref qo), (4, .int iv)]) (kk : ∀ (bx2 : Nat) (a2 : Nat → Nat) (fJ2 : Nat → Int64) (H1 : Heap) (locs1 : List Loc) (ls1 : Array Slot), va_P G.1 vwCl (zw G MS 51 am sm.1 sm.2 ++ (zw G (XS bx2) 105 a2 sx.1 sx.2 ++ [(qo, .inl (G.2.2.2.2.1, 1, .inr (.inl fJ2)))])) H1 → va_D A (zw G MS 51 am sm.1 sm.2 ++ (zw G (XS bx2) 105 a2 sx.1 sx.2 ++ [(qo, .inl (G.2.2.2.2.1, 1, .inr (.inl fJ2)))])) → va_S A s.heap H1 locs1 → lv_has ls1 8 [(0, .ref b), (1, .ref (a2 0)), (2, .ref (am 0)), (3, .ref qo), (4, .int iv)] → W p l e room_1 s m #[Value.ref b] below meth c H1 locs1 (cN + 10) (sN + 60) (lw_Z below #[Value.ref b] s) (F0 m 1511 ls1 [])) : W p l e room_1 s m #[Value.ref b] below meth c H locs cN sN (lw_Z below #[Value.ref b] s) (F0 m 952 ls []) := by
  obtain ⟨hx, hb, hr, -, -, -, hX, hbl, hlocks, -⟩ := id C0
  have hbA : ¬ A b := by rw [hA]; exact Nat.not_le.mpr hbl
  refine W.widen (k := cN + 0) (n := sN + 0) (Nat.le_refl _) (Nat.le_refl _) ?_
  refine lv_aload_n hx hb dL_law_952 rfl (lv_at hl 1 rfl) ?_
  refine lv_aload_n hx hb dL_law_953 rfl (lv_at hl 0 rfl) ?_
  refine lv_iload hx hb dL_law_954 (lv_at hl 4 rfl) ?_
  refine lv_iconst (v := 1) hx hb dL_law_956 (by decide) ?_
  refine lv_iadd hx hb dL_law_957 ?_
  refine l_sld (k := 1) hx hb hX hbl hbA hS hi (by decide) (l_lt hN rfl) hN2 dL_law_958 ?_
  refine lv_aload_n hx hb dL_law_959 rfl (lv_at hl 0 rfl) ?_
  refine lv_iload hx hb dL_law_960 (lv_at hl 4 rfl) ?_
  refine lv_iconst (v := 2) hx hb dL_law_962 (by decide) ?_
  refine lv_iadd hx hb dL_law_963 ?_
  refine l_sld (k := 2) hx hb hX hbl hbA hS hi (by decide) (l_lt hN rfl) hN2 dL_law_964 ?_
  refine lv_aload_n hx hb dL_law_965 rfl (lv_at hl 3 rfl) ?_
  have hP := swp_P hP
  have hD := swp_D hD
  refine a_callHi (wc := zw G (XS bx) 105 a g L ++ [(qo, .inl (G.2.2.2.2.1, 1, .inr (.inl fJ)))]) (wr := zw G MS 51 am gm Lm) (rest := []) li_L_179 C (wL_limit l hst G H.size bx a fu g L (xs (i + 1)) (xs (i + 2)) qo fJ rx sx hxx hE) ⟨(Nat.le_of_ble_eq_true rfl), (Nat.le_of_ble_eq_true rfl), (show cN + 0 + 2 ≤ 601024 from l_le hcN rfl), (show sN + 0 + 12 ≤ 7293033 from l_le hsN rfl)⟩ hP hD hS rfl hl.1 rfl (Nat.le_of_ble_eq_true rfl) dL_law_966 (fun k_ u_ H locs hwx_ hP hD hS => ?_)
  have hP := swp_P hP
  have hD := swp_D hD
  refine W.widen (k := cN + 2) (n := sN + 12) (Nat.le_refl _) (Nat.le_refl _) ?_
  have hP : va_P G.1 vwCl (zw G MS 51 am gm Lm ++ (zw G (XS bx) 105 a sx.1 sx.2 ++ [(qo, .inl (G.2.2.2.2.1, 1, .inr (.inl u_)))])) H := hP
  have hD : va_D A (zw G MS 51 am gm Lm ++ (zw G (XS bx) 105 a sx.1 sx.2 ++ [(qo, .inl (G.2.2.2.2.1, 1, .inr (.inl u_)))])) := hD
  refine lv_istore (lv' := [(5, .int k_), (0, .ref b), (1, .ref (a 0)), (2, .ref (am 0)), (3, .ref qo), (4, .int iv)]) hx hb dL_law_969 hl (by decide) rfl (fun ls hl => ?_)
  refine lv_aload_n hx hb dL_law_971 rfl (lv_at hl 3 rfl) ?_
  refine lv_aload_n hx hb dL_law_972 rfl (lv_at hl 1 rfl) ?_
  refine lv_iload hx hb dL_law_973 (lv_at hl 5 rfl) ?_
  refine lv_iconst (v := 1) hx hb dL_law_975 (by decide) ?_
  refine lv_iadd hx hb dL_law_976 ?_
  refine l_sld (k := 1) hx hb hX hbl hbA hS hi (by decide) (l_lt hN rfl) hN2 dL_law_977 ?_
  refine lv_aload_n hx hb dL_law_978 rfl (lv_at hl 1 rfl) ?_
  refine lv_iload hx hb dL_law_979 (lv_at hl 5 rfl) ?_
  refine lv_iconst (v := 2) hx hb dL_law_981 (by decide) ?_
  refine lv_iadd hx hb dL_law_982 ?_
  refine l_sld (k := 2) hx hb hX hbl hbA hS hi (by decide) (l_lt hN rfl) hN2 dL_law_983 ?_
  refine a_callVi (wr := zw G (XS bx) 105 a sx.1 sx.2 ++ [(qo, .inl (G.2.2.2.2.1, 1, .inr (.inl u_)))]) (rest := []) li_L_181 C (rX12_limit l G H.size am fu gm Lm (xs (i + 1)) (xs (i + 2)) rm sm hm) ⟨(Nat.le_of_ble_eq_true rfl), (Nat.le_of_ble_eq_true rfl), (show cN + 2 + 0 ≤ 601024 from l_le hcN rfl), (show sN + 12 + 0 ≤ 7293033 from l_le hsN rfl)⟩ hP hD hS 0 12 rfl (zat (by decide) ms_0) rfl hl.1 rfl (Nat.le_of_ble_eq_true rfl) dL_law_984 (fun r_ um_ H locs hw_ hP hD hS => ?_)
  obtain rfl : rm = r_ := (show r_ = rm from hw_).symm
  refine W.widen (k := cN + 2) (n := sN + 12) (Nat.le_refl _) (Nat.le_refl _) ?_
  have hP : va_P G.1 vwCl (zw G MS 51 am sm.1 sm.2 ++ (zw G (XS bx) 105 a sx.1 sx.2 ++ [(qo, .inl (G.2.2.2.2.1, 1, .inr (.inl u_)))])) H := hP
  have hD : va_D A (zw G MS 51 am sm.1 sm.2 ++ (zw G (XS bx) 105 a sx.1 sx.2 ++ [(qo, .inl (G.2.2.2.2.1, 1, .inr (.inl u_)))])) := hD
  refine lv_istore (lv' := [(6, .int rm), (5, .int k_), (0, .ref b), (1, .ref (a 0)), (2, .ref (am 0)), (3, .ref qo), (4, .int iv)]) hx hb dL_law_987 hl (by decide) rfl (fun ls hl => ?_)
  refine lv_goto (tgt := 1511) hx hb dL_law_989 (by decide) ?_
  refine W.widen (k := cN + 10) (n := sN + 60) (by omega) (by omega) ?_
  exact kk bx a u_ H locs ls hP hD hS (lv_sub hl [2, 3, 4, 5, 6] rfl)
