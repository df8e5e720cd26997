set_option maxHeartbeats 4000000 in
set_option maxRecDepth 100000 in
theorem law_20 {p : Program} {e : Env} {s : State} {m : MethodId} {below : List Frame} {meth : Method} {c : Code} {l : Launch} (hst : l.stackTraces = false) {b N : Nat} {xs : Nat → Int32} {G : kG} {A : Nat → Prop} (hN2 : N ≤ 3072) (C0 : lw_At p s m meth c b N xs) (hA : A = fun q : Nat => s.heap.size ≤ q) (C : kC G p s m c cL_law 8 RL A) {i : Nat} {iv : Int32} (hi : iv.toInt = (i : Int)) (hN : i + 6 ≤ N) {bx : Nat} {a am : Nat → Nat} {fu : Nat} {g gm : Nat → Nat → Int32} {L Lm : Nat → Nat → Int64} {qo : Nat} {fJ : Nat → Int64} {cN sN : Nat} (hcN : cN + 10 ≤ 601024) (hsN : sN + 60 ≤ 7293033) {rx : Int32} {sx : zS} {rm : Int32} {sm : zS} (hxx : fX11_last_0 fu  g L = some (rx, sx)) (hm : fX12_last fu  gm Lm = some (rm, sm)) {H : Heap} {locs : List Loc} {ls : Array Slot} (hP : va_P G.1 vwCl (zw G MS 51 am gm Lm ++ (zw G (XS bx) 105 a g L ++ [(qo, .inl (G.2.2.2.2.1, 1, .inr (.inl fJ)))])) H) (hD : va_D A (zw G MS 51 am gm Lm ++ (zw G (XS bx) 105 a g L ++ [(qo, .inl (G.2.2.2.2.1, 1, .inr (.inl fJ)))]))) (hS : va_S A s.heap H locs) (hl : lv_has ls 8 [(0, .ref b), (1, .ref (a 0)), (2, .ref (am 0)), (3, .ref qo), (4, .int iv)]) (kk : ∀ (bx2 : Nat) (a2 : Nat → Nat) (fJ2 : Nat → Int64) (H1 : Heap) (locs1 : List Loc) (ls1 : Array Slot), va_P G.1 vwCl (zw G MS 51 am sm.1 sm.2 ++ (zw G (XS bx2) 105 a2 sx.1 sx.2 ++ [(qo, .inl (G.2.2.2.2.1, 1, .inr (.inl fJ2)))])) H1 → va_D A (zw G MS 51 am sm.1 sm.2 ++ (zw G (XS bx2) 105 a2 sx.1 sx.2 ++ [(qo, .inl (G.2.2.2.2.1, 1, .inr (.inl fJ2)))])) → va_S A s.heap H1 locs1 → lv_has ls1 8 [(0, .ref b), (1, .ref (a2 0)), (2, .ref (am 0)), (3, .ref qo), (4, .int iv)] → W p l e room_1 s m #[Value.ref b] below meth c H1 locs1 (cN + 10) (sN + 60) (lw_Z below #[Value.ref b] s) (F0 m 1511 ls1 [])) : W p l e room_1 s m #[Value.ref b] below meth c H locs cN sN (lw_Z below #[Value.ref b] s) (F0 m 992 ls []) := by
  obtain ⟨hx, hb, hr, -, -, -, hX, hbl, hlocks, -⟩ := id C0
  have hbA : ¬ A b := by rw [hA]; exact Nat.not_le.mpr hbl
  refine W.widen (k := cN + 0) (n := sN + 0) (Nat.le_refl _) (Nat.le_refl _) ?_
  refine lv_aload_n hx hb dL_law_992 rfl (lv_at hl 1 rfl) ?_
  have hP := swp_P hP
  have hD := swp_D hD
  rw [List.append_assoc] at hP hD
  refine a_callVi (wr := [(qo, .inl (G.2.2.2.2.1, 1, .inr (.inl fJ)))] ++ zw G MS 51 am gm Lm) (rest := []) li_L_182 C (rX11_last_0 l G H.size bx a fu g L  rx sx hxx) ⟨(Nat.le_of_ble_eq_true rfl), (Nat.le_of_ble_eq_true rfl), (show cN + 0 + 0 ≤ 601024 from l_le hcN rfl), (show sN + 0 + 0 ≤ 7293033 from l_le hsN rfl)⟩ hP hD hS 0 11 rfl (zat (by decide) xs_0) rfl hl.1 rfl (Nat.le_of_ble_eq_true rfl) dL_law_993 (fun r_ u_ H locs hw_ hP hD hS => ?_)
  rw [← List.append_assoc] at hP hD
  have hP := swp_P hP
  have hD := swp_D hD
  obtain rfl : rx = r_ := (show r_ = rx from hw_).symm
  refine W.widen (k := cN + 0) (n := sN + 0) (Nat.le_refl _) (Nat.le_refl _) ?_
  have hP : va_P G.1 vwCl (zw G MS 51 am gm Lm ++ (zw G (XS bx) 105 a sx.1 sx.2 ++ [(qo, .inl (G.2.2.2.2.1, 1, .inr (.inl fJ)))])) H := hP
  have hD : va_D A (zw G MS 51 am gm Lm ++ (zw G (XS bx) 105 a sx.1 sx.2 ++ [(qo, .inl (G.2.2.2.2.1, 1, .inr (.inl fJ)))])) := hD
  refine lv_pop hx hb dL_law_996 rfl ?_
  refine lv_aload_n hx hb dL_law_997 rfl (lv_at hl 2 rfl) ?_
  refine a_callVi (wr := zw G (XS bx) 105 a sx.1 sx.2 ++ [(qo, .inl (G.2.2.2.2.1, 1, .inr (.inl fJ)))]) (rest := []) li_L_185 C (rX12_last l G H.size am fu gm Lm  rm sm hm) ⟨(Nat.le_of_ble_eq_true rfl), (Nat.le_of_ble_eq_true rfl), (show cN + 0 + 0 ≤ 601024 from l_le hcN rfl), (show sN + 0 + 0 ≤ 7293033 from l_le hsN rfl)⟩ hP hD hS 0 12 rfl (zat (by decide) ms_0) rfl hl.1 rfl (Nat.le_of_ble_eq_true rfl) dL_law_998 (fun r_ um_ H locs hw_ hP hD hS => ?_)
  obtain rfl : rm = r_ := (show r_ = rm from hw_).symm
  refine W.widen (k := cN + 0) (n := sN + 0) (Nat.le_refl _) (Nat.le_refl _) ?_
  have hP : va_P G.1 vwCl (zw G MS 51 am sm.1 sm.2 ++ (zw G (XS bx) 105 a sx.1 sx.2 ++ [(qo, .inl (G.2.2.2.2.1, 1, .inr (.inl fJ)))])) H := hP
  have hD : va_D A (zw G MS 51 am sm.1 sm.2 ++ (zw G (XS bx) 105 a sx.1 sx.2 ++ [(qo, .inl (G.2.2.2.2.1, 1, .inr (.inl fJ)))])) := hD
  refine lv_pop hx hb dL_law_1001 rfl ?_
  refine lv_goto (tgt := 1511) hx hb dL_law_1002 (by decide) ?_
  refine W.widen (k := cN + 10) (n := sN + 60) (by omega) (by omega) ?_
  exact kk bx a fJ H locs ls hP hD hS (lv_sub hl [0, 1, 2, 3, 4] rfl)
set_option maxHeartbeats 4000000 in
set_option maxRecDepth 100000 in
theorem law_21 {p : Program} {e : Env} {s : State} {m : MethodId} {below : List Frame} {meth : Method} {c : Code} {l : Launch} (hst : l.stackTraces = false) {b N : Nat} {xs : Nat → Int32} {G : kG} {A : Nat → Prop} (hN2 : N ≤ 3072) (C0 : lw_At p s m meth c b N xs) (hA : A = fun q : Nat => s.heap.size ≤ q) (C : kC G p s m c cL_law 8 RL A) {i : Nat} {iv : Int32} (hi : iv.toInt = (i : Int)) (hN : i + 6 ≤ N) {bx : Nat} {a am : Nat → Nat} {fu : Nat} {g gm : Nat → Nat → Int32} {L Lm : Nat → Nat → Int64} {qo : Nat} {fJ : Nat → Int64} {cN sN : Nat} (hcN : cN + 10 ≤ 601024) (hsN : sN + 60 ≤ 7293033) {rx : Except String Int32} {sx : zS} {rm : Int32} {sm : zS} (hxx : fX11_compare_0 fu (xs (i + 1)) g L = some (rx, sx)) (hE : ∀ E, rx = .error E → E = "java/util/NoSuchElementException") (hm : fX12_compare fu (xs (i + 1)) gm Lm = some (rm, sm)) {H : Heap} {locs : List Loc} {ls : Array Slot} (hP : va_P G.1 vwCl (zw G MS 51 am gm Lm ++ (zw G (XS bx) 105 a g L ++ [(qo, .inl (G.2.2.2.2.1, 1, .inr (.inl fJ)))])) H) (hD : va_D A (zw G MS 51 am gm Lm ++ (zw G (XS bx) 105 a g L ++ [(qo, .inl (G.2.2.2.2.1, 1, .inr (.inl fJ)))]))) (hS : va_S A s.heap H locs) (hl : lv_has ls 8 [(0, .ref b), (1, .ref (a 0)), (2, .ref (am 0)), (3, .ref qo), (4, .int iv)]) (kk : ∀ (bx2 : Nat) (a2 : Nat → Nat) (fJ2 : Nat → Int64) (H1 : Heap) (locs1 : List Loc) (ls1 : Array Slot), va_P G.1 vwCl (zw G MS 51 am sm.1 sm.2 ++ (zw G (XS bx2) 105 a2 sx.1 sx.2 ++ [(qo, .inl (G.2.2.2.2.1, 1, .inr (.inl fJ2)))])) H1 → va_D A (zw G MS 51 am sm.1 sm.2 ++ (zw G (XS bx2) 105 a2 sx.1 sx.2 ++ [(qo, .inl (G.2.2.2.2.1, 1, .inr (.inl fJ2)))])) → va_S A s.heap H1 locs1 → lv_has ls1 8 [(0, .ref b), (1, .ref (a2 0)), (2, .ref (am 0)), (3, .ref qo), (4, .int iv)] → W p l e room_1 s m #[Value.ref b] below meth c H1 locs1 (cN + 10) (sN + 60) (lw_Z below #[Value.ref b] s) (F0 m 1511 ls1 [])) : W p l e room_1 s m #[Value.ref b] below meth c H locs cN sN (lw_Z below #[Value.ref b] s) (F0 m 1005 ls []) := by
  obtain ⟨hx, hb, hr, -, -, -, hX, hbl, hlocks, -⟩ := id C0
  have hbA : ¬ A b := by rw [hA]; exact Nat.not_le.mpr hbl
  refine W.widen (k := cN + 0) (n := sN + 0) (Nat.le_refl _) (Nat.le_refl _) ?_
  refine lv_aload_n hx hb dL_law_1005 rfl (lv_at hl 1 rfl) ?_
  refine lv_aload_n hx hb dL_law_1006 rfl (lv_at hl 0 rfl) ?_
  refine lv_iload hx hb dL_law_1007 (lv_at hl 4 rfl) ?_
  refine lv_iconst (v := 1) hx hb dL_law_1009 (by decide) ?_
  refine lv_iadd hx hb dL_law_1010 ?_
  refine l_sld (k := 1) hx hb hX hbl hbA hS hi (by decide) (l_lt hN rfl) hN2 dL_law_1011 ?_
  refine lv_aload_n hx hb dL_law_1012 rfl (lv_at hl 3 rfl) ?_
  have hP := swp_P hP
  have hD := swp_D hD
  refine a_callHi (wc := zw G (XS bx) 105 a g L ++ [(qo, .inl (G.2.2.2.2.1, 1, .inr (.inl fJ)))]) (wr := zw G MS 51 am gm Lm) (rest := []) li_L_186 C (wL_compare l hst G H.size bx a fu g L (xs (i + 1)) qo fJ rx sx hxx hE) ⟨(Nat.le_of_ble_eq_true rfl), (Nat.le_of_ble_eq_true rfl), (show cN + 0 + 1 ≤ 601024 from l_le hcN rfl), (show sN + 0 + 6 ≤ 7293033 from l_le hsN rfl)⟩ hP hD hS rfl hl.1 rfl (Nat.le_of_ble_eq_true rfl) dL_law_1013 (fun k_ u_ H locs hwx_ hP hD hS => ?_)
  have hP := swp_P hP
  have hD := swp_D hD
  refine W.widen (k := cN + 1) (n := sN + 6) (Nat.le_refl _) (Nat.le_refl _) ?_
  have hP : va_P G.1 vwCl (zw G MS 51 am gm Lm ++ (zw G (XS bx) 105 a sx.1 sx.2 ++ [(qo, .inl (G.2.2.2.2.1, 1, .inr (.inl u_)))])) H := hP
  have hD : va_D A (zw G MS 51 am gm Lm ++ (zw G (XS bx) 105 a sx.1 sx.2 ++ [(qo, .inl (G.2.2.2.2.1, 1, .inr (.inl u_)))])) := hD
  refine lv_istore (lv' := [(5, .int k_), (0, .ref b), (1, .ref (a 0)), (2, .ref (am 0)), (3, .ref qo), (4, .int iv)]) hx hb dL_law_1016 hl (by decide) rfl (fun ls hl => ?_)
  refine lv_aload_n hx hb dL_law_1018 rfl (lv_at hl 3 rfl) ?_
  refine lv_aload_n hx hb dL_law_1019 rfl (lv_at hl 1 rfl) ?_
  refine lv_iload hx hb dL_law_1020 (lv_at hl 5 rfl) ?_
  refine lv_iconst (v := 1) hx hb dL_law_1022 (by decide) ?_
  refine lv_iadd hx hb dL_law_1023 ?_
  refine l_sld (k := 1) hx hb hX hbl hbA hS hi (by decide) (l_lt hN rfl) hN2 dL_law_1024 ?_
  refine a_callVi (wr := zw G (XS bx) 105 a sx.1 sx.2 ++ [(qo, .inl (G.2.2.2.2.1, 1, .inr (.inl u_)))]) (rest := []) li_L_188 C (rX12_compare l G H.size am fu gm Lm (xs (i + 1)) rm sm hm) ⟨(Nat.le_of_ble_eq_true rfl), (Nat.le_of_ble_eq_true rfl), (show cN + 1 + 0 ≤ 601024 from l_le hcN rfl), (show sN + 6 + 0 ≤ 7293033 from l_le hsN rfl)⟩ hP hD hS 0 12 rfl (zat (by decide) ms_0) rfl hl.1 rfl (Nat.le_of_ble_eq_true rfl) dL_law_1025 (fun r_ um_ H locs hw_ hP hD hS => ?_)
  obtain rfl : rm = r_ := (show r_ = rm from hw_).symm
  refine W.widen (k := cN + 1) (n := sN + 6) (Nat.le_refl _) (Nat.le_refl _) ?_
  have hP : va_P G.1 vwCl (zw G MS 51 am sm.1 sm.2 ++ (zw G (XS bx) 105 a sx.1 sx.2 ++ [(qo, .inl (G.2.2.2.2.1, 1, .inr (.inl u_)))])) H := hP
  have hD : va_D A (zw G MS 51 am sm.1 sm.2 ++ (zw G (XS bx) 105 a sx.1 sx.2 ++ [(qo, .inl (G.2.2.2.2.1, 1, .inr (.inl u_)))])) := hD
  refine lv_istore (lv' := [(6, .int rm), (5, .int k_), (0, .ref b), (1, .ref (a 0)), (2, .ref (am 0)), (3, .ref qo), (4, .int iv)]) hx hb dL_law_1028 hl (by decide) rfl (fun ls hl => ?_)
  refine lv_goto (tgt := 1511) hx hb dL_law_1030 (by decide) ?_
  refine W.widen (k := cN + 10) (n := sN + 60) (by omega) (by omega) ?_
  exact kk bx a u_ H locs ls hP hD hS (lv_sub hl [2, 3, 4, 5, 6] rfl)
set_option maxHeartbeats 4000000 in
set_option maxRecDepth 100000 in
theorem law_22 {p : Program} {e : Env} {s : State} {m : MethodId} {below : List Frame} {meth : Method} {c : Code} {l : Launch} (hst : l.stackTraces = false) {b N : Nat} {xs : Nat → Int32} {G : kG} {A : Nat → Prop} (hN2 : N ≤ 3072) (C0 : lw_At p s m meth c b N xs) (hA : A = fun q : Nat => s.heap.size ≤ q) (C : kC G p s m c cL_law 8 RL A) {i : Nat} {iv : Int32} (hi : iv.toInt = (i : Int)) (hN : i + 6 ≤ N) {bx : Nat} {a am : Nat → Nat} {fu : Nat} {g gm : Nat → Nat → Int32} {L Lm : Nat → Nat → Int64} {qo : Nat} {fJ : Nat → Int64} {cN sN : Nat} (hcN : cN + 10 ≤ 601024) (hsN : sN + 60 ≤ 7293033) {rx : Int32} {sx : zS} {rm : Int32} {sm : zS} (hxx : fX11_best_0 fu  g L = some (rx, sx)) (hm : fX12_best fu  gm Lm = some (rm, sm)) {H : Heap} {locs : List Loc} {ls : Array Slot} (hP : va_P G.1 vwCl (zw G MS 51 am gm Lm ++ (zw G (XS bx) 105 a g L ++ [(qo, .inl (G.2.2.2.2.1, 1, .inr (.inl fJ)))])) H) (hD : va_D A (zw G MS 51 am gm Lm ++ (zw G (XS bx) 105 a g L ++ [(qo, .inl (G.2.2.2.2.1, 1, .inr (.inl fJ)))]))) (hS : va_S A s.heap H locs) (hl : lv_has ls 8 [(0, .ref b), (1, .ref (a 0)), (2, .ref (am 0)), (3, .ref qo), (4, .int iv)]) (kk : ∀ (bx2 : Nat) (a2 : Nat → Nat) (fJ2 : Nat → Int64) (H1 : Heap) (locs1 : List Loc) (ls1 : Array Slot), va_P G.1 vwCl (zw G MS 51 am sm.1 sm.2 ++ (zw G (XS bx2) 105 a2 sx.1 sx.2 ++ [(qo, .inl (G.2.2.2.2.1, 1, .inr (.inl fJ2)))])) H1 → va_D A (zw G MS 51 am sm.1 sm.2 ++ (zw G (XS bx2) 105 a2 sx.1 sx.2 ++ [(qo, .inl (G.2.2.2.2.1, 1, .inr (.inl fJ2)))])) → va_S A s.heap H1 locs1 → lv_has ls1 8 [(0, .ref b), (1, .ref (a2 0)), (2, .ref (am 0)), (3, .ref qo), (4, .int iv)] → W p l e room_1 s m #[Value.ref b] below meth c H1 locs1 (cN + 10) (sN + 60) (lw_Z below #[Value.ref b] s) (F0 m 1511 ls1 [])) : W p l e room_1 s m #[Value.ref b] below meth c H locs cN sN (lw_Z below #[Value.ref b] s) (F0 m 1033 ls []) := by
  obtain ⟨hx, hb, hr, -, -, -, hX, hbl, hlocks, -⟩ := id C0
  have hbA : ¬ A b := by rw [hA]; exact Nat.not_le.mpr hbl
  refine W.widen (k := cN + 0) (n := sN + 0) (Nat.le_refl _) (Nat.le_refl _) ?_
  refine lv_aload_n hx hb dL_law_1033 rfl (lv_at hl 1 rfl) ?_
  have hP := swp_P hP
  have hD := swp_D hD
  rw [List.append_assoc] at hP hD
  refine a_callVi (wr := [(qo, .inl (G.2.2.2.2.1, 1, .inr (.inl fJ)))] ++ zw G MS 51 am gm Lm) (rest := []) li_L_189 C (rX11_best_0 l G H.size bx a fu g L  rx sx hxx) ⟨(Nat.le_of_ble_eq_true rfl), (Nat.le_of_ble_eq_true rfl), (show cN + 0 + 0 ≤ 601024 from l_le hcN rfl), (show sN + 0 + 0 ≤ 7293033 from l_le hsN rfl)⟩ hP hD hS 0 11 rfl (zat (by decide) xs_0) rfl hl.1 rfl (Nat.le_of_ble_eq_true rfl) dL_law_1034 (fun r_ u_ H locs hw_ hP hD hS => ?_)
  rw [← List.append_assoc] at hP hD
  have hP := swp_P hP
  have hD := swp_D hD
  obtain rfl : rx = r_ := (show r_ = rx from hw_).symm
  refine W.widen (k := cN + 0) (n := sN + 0) (Nat.le_refl _) (Nat.le_refl _) ?_
  have hP : va_P G.1 vwCl (zw G MS 51 am gm Lm ++ (zw G (XS bx) 105 a sx.1 sx.2 ++ [(qo, .inl (G.2.2.2.2.1, 1, .inr (.inl fJ)))])) H := hP
  have hD : va_D A (zw G MS 51 am gm Lm ++ (zw G (XS bx) 105 a sx.1 sx.2 ++ [(qo, .inl (G.2.2.2.2.1, 1, .inr (.inl fJ)))])) := hD
  refine lv_pop hx hb dL_law_1037 rfl ?_
  refine lv_aload_n hx hb dL_law_1038 rfl (lv_at hl 2 rfl) ?_
  refine a_callVi (wr := zw G (XS bx) 105 a sx.1 sx.2 ++ [(qo, .inl (G.2.2.2.2.1, 1, .inr (.inl fJ)))]) (rest := []) li_L_192 C (rX12_best l G H.size am fu gm Lm  rm sm hm) ⟨(Nat.le_of_ble_eq_true rfl), (Nat.le_of_ble_eq_true rfl), (show cN + 0 + 0 ≤ 601024 from l_le hcN rfl), (show sN + 0 + 0 ≤ 7293033 from l_le hsN rfl)⟩ hP hD hS 0 12 rfl (zat (by decide) ms_0) rfl hl.1 rfl (Nat.le_of_ble_eq_true rfl) dL_law_1039 (fun r_ um_ H locs hw_ hP hD hS => ?_)
  obtain rfl : rm = r_ := (show r_ = rm from hw_).symm
  refine W.widen (k := cN + 0) (n := sN + 0) (Nat.le_refl _) (Nat.le_refl _) ?_
  have hP : va_P G.1 vwCl (zw G MS 51 am sm.1 sm.2 ++ (zw G (XS bx) 105 a sx.1 sx.2 ++ [(qo, .inl (G.2.2.2.2.1, 1, .inr (.inl fJ)))])) H := hP
  have hD : va_D A (zw G MS 51 am sm.1 sm.2 ++ (zw G (XS bx) 105 a sx.1 sx.2 ++ [(qo, .inl (G.2.2.2.2.1, 1, .inr (.inl fJ)))])) := hD
  refine lv_pop hx hb dL_law_1042 rfl ?_
  refine lv_goto (tgt := 1511) hx hb dL_law_1043 (by decide) ?_
  refine W.widen (k := cN + 10) (n := sN + 60) (by omega) (by omega) ?_
  exact kk bx a fJ H locs ls hP hD hS (lv_sub hl [0, 1, 2, 3, 4] rfl)
set_option maxHeartbeats 4000000 in
set_option maxRecDepth 100000 in
theorem law_23 {p : Program} {e : Env} {s : State} {m : MethodId} {below : List Frame} {meth : Method} {c : Code} {l : Launch} (hst : l.stackTraces = false) {b N : Nat} {xs : Nat → Int32} {G : kG} {A : Nat → Prop} (hN2 : N ≤ 3072) (C0 : lw_At p s m meth c b N xs) (hA : A = fun q : Nat => s.heap.size ≤ q) (C : kC G p s m c cL_law 8 RL A) {i : Nat} {iv : Int32} (hi : iv.toInt = (i : Int)) (hN : i + 6 ≤ N) {bx : Nat} {a am : Nat → Nat} {fu : Nat} {g gm : Nat → Nat → Int32} {L Lm : Nat → Nat → Int64} {qo : Nat} {fJ : Nat → Int64} {cN sN : Nat} (hcN : cN + 10 ≤ 601024) (hsN : sN + 60 ≤ 7293033) {rx : Except String Int32} {sx : zS} {rm : Int32} {sm : zS} (hxx : fX11_bell_0 fu (xs (i + 1)) g L = some (rx, sx)) (hE : ∀ E, rx = .error E → E = "java/lang/IllegalArgumentException") (hm : fX12_bell fu (xs (i + 1)) gm Lm = some (rm, sm)) {H : Heap} {locs : List Loc} {ls : Array Slot} (hP : va_P G.1 vwCl (zw G MS 51 am gm Lm ++ (zw G (XS bx) 105 a g L ++ [(qo, .inl (G.2.2.2.2.1, 1, .inr (.inl fJ)))])) H) (hD : va_D A (zw G MS 51 am gm Lm ++ (zw G (XS bx) 105 a g L ++ [(qo, .inl (G.2.2.2.2.1, 1, .inr (.inl fJ)))]))) (hS : va_S A s.heap H locs) (hl : lv_has ls 8 [(0, .ref b), (1, .ref (a 0)), (2, .ref (am 0)), (3, .ref qo), (4, .int iv)]) (kk : ∀ (bx2 : Nat) (a2 : Nat → Nat) (fJ2 : Nat → Int64) (H1 : Heap) (locs1 : List Loc) (ls1 : Array Slot), va_P G.1 vwCl (zw G MS 51 am sm.1 sm.2 ++ (zw G (XS bx2) 105 a2 sx.1 sx.2 ++ [(qo, .inl (G.2.2.2.2.1, 1, .inr (.inl fJ2)))])) H1 → va_D A (zw G MS 51 am sm.1 sm.2 ++ (zw G (XS bx2) 105 a2 sx.1 sx.2 ++ [(qo, .inl (G.2.2.2.2.1, 1, .inr (.inl fJ2)))])) → va_S A s.heap H1 locs1 → lv_has ls1 8 [(0, .ref b), (1, .ref (a2 0)), (2, .ref (am 0)), (3, .ref qo), (4, .int iv)] → W p l e room_1 s m #[Value.ref b] below meth c H1 locs1 (cN + 10) (sN + 60) (lw_Z below #[Value.ref b] s) (F0 m 1511 ls1 [])) : W p l e room_1 s m #[Value.ref b] below meth c H locs cN sN (lw_Z below #[Value.ref b] s) (F0 m 1046 ls []) := by
  obtain ⟨hx, hb, hr, -, -, -, hX, hbl, hlocks, -⟩ := id C0
  have hbA : ¬ A b := by rw [hA]; exact Nat.not_le.mpr hbl
  refine W.widen (k := cN + 0) (n := sN + 0) (Nat.le_refl _) (Nat.le_refl _) ?_
  refine lv_aload_n hx hb dL_law_1046 rfl (lv_at hl 1 rfl) ?_
  refine lv_aload_n hx hb dL_law_1047 rfl (lv_at hl 0 rfl) ?_
  refine lv_iload hx hb dL_law_1048 (lv_at hl 4 rfl) ?_
  refine lv_iconst (v := 1) hx hb dL_law_1050 (by decide) ?_
  refine lv_iadd hx hb dL_law_1051 ?_
  refine l_sld (k := 1) hx hb hX hbl hbA hS hi (by decide) (l_lt hN rfl) hN2 dL_law_1052 ?_
  refine lv_aload_n hx hb dL_law_1053 rfl (lv_at hl 3 rfl) ?_
  have hP := swp_P hP
  have hD := swp_D hD
  refine a_callHi (wc := zw G (XS bx) 105 a g L ++ [(qo, .inl (G.2.2.2.2.1, 1, .inr (.inl fJ)))]) (wr := zw G MS 51 am gm Lm) (rest := []) li_L_193 C (wL_bell l hst G H.size bx a fu g L (xs (i + 1)) qo fJ rx sx hxx hE) ⟨(Nat.le_of_ble_eq_true rfl), (Nat.le_of_ble_eq_true rfl), (show cN + 0 + 1 ≤ 601024 from l_le hcN rfl), (show sN + 0 + 6 ≤ 7293033 from l_le hsN rfl)⟩ hP hD hS rfl hl.1 rfl (Nat.le_of_ble_eq_true rfl) dL_law_1054 (fun k_ u_ H locs hwx_ hP hD hS => ?_)
  have hP := swp_P hP
  have hD := swp_D hD
  refine W.widen (k := cN + 1) (n := sN + 6) (Nat.le_refl _) (Nat.le_refl _) ?_
  have hP : va_P G.1 vwCl (zw G MS 51 am gm Lm ++ (zw G (XS bx) 105 a sx.1 sx.2 ++ [(qo, .inl (G.2.2.2.2.1, 1, .inr (.inl u_)))])) H := hP
  have hD : va_D A (zw G MS 51 am gm Lm ++ (zw G (XS bx) 105 a sx.1 sx.2 ++ [(qo, .inl (G.2.2.2.2.1, 1, .inr (.inl u_)))])) := hD
  refine lv_istore (lv' := [(5, .int k_), (0, .ref b), (1, .ref (a 0)), (2, .ref (am 0)), (3, .ref qo), (4, .int iv)]) hx hb dL_law_1057 hl (by decide) rfl (fun ls hl => ?_)
  refine lv_aload_n hx hb dL_law_1059 rfl (lv_at hl 3 rfl) ?_
  refine lv_aload_n hx hb dL_law_1060 rfl (lv_at hl 1 rfl) ?_
  refine lv_iload hx hb dL_law_1061 (lv_at hl 5 rfl) ?_
  refine lv_iconst (v := 1) hx hb dL_law_1063 (by decide) ?_
  refine lv_iadd hx hb dL_law_1064 ?_
  refine l_sld (k := 1) hx hb hX hbl hbA hS hi (by decide) (l_lt hN rfl) hN2 dL_law_1065 ?_
  refine a_callVi (wr := zw G (XS bx) 105 a sx.1 sx.2 ++ [(qo, .inl (G.2.2.2.2.1, 1, .inr (.inl u_)))]) (rest := []) li_L_195 C (rX12_bell l G H.size am fu gm Lm (xs (i + 1)) rm sm hm) ⟨(Nat.le_of_ble_eq_true rfl), (Nat.le_of_ble_eq_true rfl), (show cN + 1 + 0 ≤ 601024 from l_le hcN rfl), (show sN + 6 + 0 ≤ 7293033 from l_le hsN rfl)⟩ hP hD hS 0 12 rfl (zat (by decide) ms_0) rfl hl.1 rfl (Nat.le_of_ble_eq_true rfl) dL_law_1066 (fun r_ um_ H locs hw_ hP hD hS => ?_)
  obtain rfl : rm = r_ := (show r_ = rm from hw_).symm
  refine W.widen (k := cN + 1) (n := sN + 6) (Nat.le_refl _) (Nat.le_refl _) ?_
  have hP : va_P G.1 vwCl (zw G MS 51 am sm.1 sm.2 ++ (zw G (XS bx) 105 a sx.1 sx.2 ++ [(qo, .inl (G.2.2.2.2.1, 1, .inr (.inl u_)))])) H := hP
  have hD : va_D A (zw G MS 51 am sm.1 sm.2 ++ (zw G (XS bx) 105 a sx.1 sx.2 ++ [(qo, .inl (G.2.2.2.2.1, 1, .inr (.inl u_)))])) := hD
  refine lv_istore (lv' := [(6, .int rm), (5, .int k_), (0, .ref b), (1, .ref (a 0)), (2, .ref (am 0)), (3, .ref qo), (4, .int iv)]) hx hb dL_law_1069 hl (by decide) rfl (fun ls hl => ?_)
  refine lv_goto (tgt := 1511) hx hb dL_law_1071 (by decide) ?_
  refine W.widen (k := cN + 10) (n := sN + 60) (by omega) (by omega) ?_
  exact kk bx a u_ H locs ls hP hD hS (lv_sub hl [2, 3, 4, 5, 6] rfl)
set_option maxHeartbeats 4000000 in
set_option maxRecDepth 100000 in
theorem law_24 {p : Program} {e : Env} {s : State} {m : MethodId} {below : List Frame} {meth : Method} {c : Code} {l : Launch} (hst : l.stackTraces = false) {b N : Nat} {xs : Nat → Int32} {G : kG} {A : Nat → Prop} (hN2 : N ≤ 3072) (C0 : lw_At p s m meth c b N xs) (hA : A = fun q : Nat => s.heap.size ≤ q) (C : kC G p s m c cL_law 8 RL A) {i : Nat} {iv : Int32} (hi : iv.toInt = (i : Int)) (hN : i + 6 ≤ N) {bx : Nat} {a am : Nat → Nat} {fu : Nat} {g gm : Nat → Nat → Int32} {L Lm : Nat → Nat → Int64} {qo : Nat} {fJ : Nat → Int64} {cN sN : Nat} (hcN : cN + 10 ≤ 601024) (hsN : sN + 60 ≤ 7293033) {rx : Except String Int32} {sx : zS} {rm : Int32} {sm : zS} (hxx : fX11_see_0 fu (xs (i + 1)) (xs (i + 2)) g L = some (rx, sx)) (hE : ∀ E, rx = .error E → E = "java/util/NoSuchElementException") (hm : fX12_see fu (xs (i + 1)) (xs (i + 2)) gm Lm = some (rm, sm)) {H : Heap} {locs : List Loc} {ls : Array Slot} (hP : va_P G.1 vwCl (zw G MS 51 am gm Lm ++ (zw G (XS bx) 105 a g L ++ [(qo, .inl (G.2.2.2.2.1, 1, .inr (.inl fJ)))])) H) (hD : va_D A (zw G MS 51 am gm Lm ++ (zw G (XS bx) 105 a g L ++ [(qo, .inl (G.2.2.2.2.1, 1, .inr (.inl fJ)))]))) (hS : va_S A s.heap H locs) (hl : lv_has ls 8 [(0, .ref b), (1, .ref (a 0)), (2, .ref (am 0)), (3, .ref qo), (4, .int iv)]) (kk : ∀ (bx2 : Nat) (a2 : Nat → Nat) (fJ2 : Nat → Int64) (H1 : Heap) (locs1 : List Loc) (ls1 : Array Slot), va_P G.1 vwCl (zw G MS 51 am sm.1 sm.2 ++ (zw G (XS bx2) 105 a2 sx.1 sx.2 ++ [(qo, .inl (G.2.2.2.2.1, 1, .inr (.inl fJ2)))])) H1 → va_D A (zw G MS 51 am sm.1 sm.2 ++ (zw G (XS bx2) 105 a2 sx.1 sx.2 ++ [(qo, .inl (G.2.2.2.2.1, 1, .inr (.inl fJ2)))])) → va_S A s.heap H1 locs1 → lv_has ls1 8 [(0, .ref b), (1, .ref (a2 0)), (2, .ref (am 0)), (3, .ref qo), (4, .int iv)] → W p l e room_1 s m #[Value.ref b] below meth c H1 locs1 (cN + 10) (sN + 60) (lw_Z below #[Value.ref b] s) (F0 m 1511 ls1 [])) : W p l e room_1 s m #[Value.ref b] below meth c H locs cN sN (lw_Z below #[Value.ref b] s) (F0 m 1074 ls []) := by
  obtain ⟨hx, hb, hr, -, -, -, hX, hbl, hlocks, -⟩ := id C0
  have hbA : ¬ A b := by rw [hA]; exact Nat.not_le.mpr hbl
  refine W.widen (k := cN + 0) (n := sN + 0) (Nat.le_refl _) (Nat.le_refl _) ?_
  refine lv_aload_n hx hb dL_law_1074 rfl (lv_at hl 1 rfl) ?_
  refine lv_aload_n hx hb dL_law_1075 rfl (lv_at hl 0 rfl) ?_
  refine lv_iload hx hb dL_law_1076 (lv_at hl 4 rfl) ?_
  refine lv_iconst (v := 1) hx hb dL_law_1078 (by decide) ?_
  refine lv_iadd hx hb dL_law_1079 ?_
  refine l_sld (k := 1) hx hb hX hbl hbA hS hi (by decide) (l_lt hN rfl) hN2 dL_law_1080 ?_
  refine lv_aload_n hx hb dL_law_1081 rfl (lv_at hl 0 rfl) ?_
  refine lv_iload hx hb dL_law_1082 (lv_at hl 4 rfl) ?_
  refine lv_iconst (v := 2) hx hb dL_law_1084 (by decide) ?_
  refine lv_iadd hx hb dL_law_1085 ?_
  refine l_sld (k := 2) hx hb hX hbl hbA hS hi (by decide) (l_lt hN rfl) hN2 dL_law_1086 ?_
  refine lv_aload_n hx hb dL_law_1087 rfl (lv_at hl 3 rfl) ?_
  have hP := swp_P hP
  have hD := swp_D hD
  refine a_callHi (wc := zw G (XS bx) 105 a g L ++ [(qo, .inl (G.2.2.2.2.1, 1, .inr (.inl fJ)))]) (wr := zw G MS 51 am gm Lm) (rest := []) li_L_196 C (wL_see l hst G H.size bx a fu g L (xs (i + 1)) (xs (i + 2)) qo fJ rx sx hxx hE) ⟨(Nat.le_of_ble_eq_true rfl), (Nat.le_of_ble_eq_true rfl), (show cN + 0 + 1 ≤ 601024 from l_le hcN rfl), (show sN + 0 + 6 ≤ 7293033 from l_le hsN rfl)⟩ hP hD hS rfl hl.1 rfl (Nat.le_of_ble_eq_true rfl) dL_law_1088 (fun k_ u_ H locs hwx_ hP hD hS => ?_)
  have hP := swp_P hP
  have hD := swp_D hD
  refine W.widen (k := cN + 1) (n := sN + 6) (Nat.le_refl _) (Nat.le_refl _) ?_
  have hP : va_P G.1 vwCl (zw G MS 51 am gm Lm ++ (zw G (XS bx) 105 a sx.1 sx.2 ++ [(qo, .inl (G.2.2.2.2.1, 1, .inr (.inl u_)))])) H := hP
  have hD : va_D A (zw G MS 51 am gm Lm ++ (zw G (XS bx) 105 a sx.1 sx.2 ++ [(qo, .inl (G.2.2.2.2.1, 1, .inr (.inl u_)))])) := hD
  refine lv_istore (lv' := [(5, .int k_), (0, .ref b), (1, .ref (a 0)), (2, .ref (am 0)), (3, .ref qo), (4, .int iv)]) hx hb dL_law_1091 hl (by decide) rfl (fun ls hl => ?_)
  refine lv_aload_n hx hb dL_law_1093 rfl (lv_at hl 3 rfl) ?_
  refine lv_aload_n hx hb dL_law_1094 rfl (lv_at hl 1 rfl) ?_
  refine lv_iload hx hb dL_law_1095 (lv_at hl 5 rfl) ?_
  refine lv_iconst (v := 1) hx hb dL_law_1097 (by decide) ?_
  refine lv_iadd hx hb dL_law_1098 ?_
  refine l_sld (k := 1) hx hb hX hbl hbA hS hi (by decide) (l_lt hN rfl) hN2 dL_law_1099 ?_
  refine lv_aload_n hx hb dL_law_1100 rfl (lv_at hl 1 rfl) ?_
  refine lv_iload hx hb dL_law_1101 (lv_at hl 5 rfl) ?_
  refine lv_iconst (v := 2) hx hb dL_law_1103 (by decide) ?_
  refine lv_iadd hx hb dL_law_1104 ?_
  refine l_sld (k := 2) hx hb hX hbl hbA hS hi (by decide) (l_lt hN rfl) hN2 dL_law_1105 ?_
  refine a_callVi (wr := zw G (XS bx) 105 a sx.1 sx.2 ++ [(qo, .inl (G.2.2.2.2.1, 1, .inr (.inl u_)))]) (rest := []) li_L_198 C (rX12_see l G H.size am fu gm Lm (xs (i + 1)) (xs (i + 2)) rm sm hm) ⟨(Nat.le_of_ble_eq_true rfl), (Nat.le_of_ble_eq_true rfl), (show cN + 1 + 0 ≤ 601024 from l_le hcN rfl), (show sN + 6 + 0 ≤ 7293033 from l_le hsN rfl)⟩ hP hD hS 0 12 rfl (zat (by decide) ms_0) rfl hl.1 rfl (Nat.le_of_ble_eq_true rfl) dL_law_1106 (fun r_ um_ H locs hw_ hP hD hS => ?_)
  obtain rfl : rm = r_ := (show r_ = rm from hw_).symm
  refine W.widen (k := cN + 1) (n := sN + 6) (Nat.le_refl _) (Nat.le_refl _) ?_
  have hP : va_P G.1 vwCl (zw G MS 51 am sm.1 sm.2 ++ (zw G (XS bx) 105 a sx.1 sx.2 ++ [(qo, .inl (G.2.2.2.2.1, 1, .inr (.inl u_)))])) H := hP
  have hD : va_D A (zw G MS 51 am sm.1 sm.2 ++ (zw G (XS bx) 105 a sx.1 sx.2 ++ [(qo, .inl (G.2.2.2.2.1, 1, .inr (.inl u_)))])) := hD
  refine lv_istore (lv' := [(6, .int rm), (5, .int k_), (0, .ref b), (1, .ref (a 0)), (2, .ref (am 0)), (3, .ref qo), (4, .int iv)]) hx hb dL_law_1109 hl (by decide) rfl (fun ls hl => ?_)
  refine lv_goto (tgt := 1511) hx hb dL_law_1111 (by decide) ?_
  refine W.widen (k := cN + 10) (n := sN + 60) (by omega) (by omega) ?_
  exact kk bx a u_ H locs ls hP hD hS (lv_sub hl [2, 3, 4, 5, 6] rfl)
set_option maxHeartbeats 4000000 in
set_option maxRecDepth 100000 in
theorem law_25 {p : Program} {e : Env} {s : State} {m : MethodId} {below : List Frame} {meth : Method} {c : Code} {l : Launch} (hst : l.stackTraces = false) {b N : Nat} {xs : Nat → Int32} {G : kG} {A : Nat → Prop} (hN2 : N ≤ 3072) (C0 : lw_At p s m meth c b N xs) (hA : A = fun q : Nat => s.heap.size ≤ q) (C : kC G p s m c cL_law 8 RL A) {i : Nat} {iv : Int32} (hi : iv.toInt = (i : Int)) (hN : i + 6 ≤ N) {bx : Nat} {a am : Nat → Nat} {fu : Nat} {g gm : Nat → Nat → Int32} {L Lm : Nat → Nat → Int64} {qo : Nat} {fJ : Nat → Int64} {cN sN : Nat} (hcN : cN + 10 ≤ 601024) (hsN : sN + 60 ≤ 7293033) {rx : Unit} {sx : zS} {rm : Unit} {sm : zS} (hxx : fX11_forget_0 fu  g L = some (rx, sx)) (hm : fX12_forget fu  gm Lm = some (rm, sm)) {H : Heap} {locs : List Loc} {ls : Array Slot} (hP : va_P G.1 vwCl (zw G MS 51 am gm Lm ++ (zw G (XS bx) 105 a g L ++ [(qo, .inl (G.2.2.2.2.1, 1, .inr (.inl fJ)))])) H) (hD : va_D A (zw G MS 51 am gm Lm ++ (zw G (XS bx) 105 a g L ++ [(qo, .inl (G.2.2.2.2.1, 1, .inr (.inl fJ)))]))) (hS : va_S A s.heap H locs) (hl : lv_has ls 8 [(0, .ref b), (1, .ref (a 0)), (2, .ref (am 0)), (3, .ref qo), (4, .int iv)]) (kk : ∀ (bx2 : Nat) (a2 : Nat → Nat) (fJ2 : Nat → Int64) (H1 : Heap) (locs1 : List Loc) (ls1 : Array Slot), va_P G.1 vwCl (zw G MS 51 am sm.1 sm.2 ++ (zw G (XS bx2) 105 a2 sx.1 sx.2 ++ [(qo, .inl (G.2.2.2.2.1, 1, .inr (.inl fJ2)))])) H1 → va_D A (zw G MS 51 am sm.1 sm.2 ++ (zw G (XS bx2) 105 a2 sx.1 sx.2 ++ [(qo, .inl (G.2.2.2.2.1, 1, .inr (.inl fJ2)))])) → va_S A s.heap H1 locs1 → lv_has ls1 8 [(0, .ref b), (1, .ref (a2 0)), (2, .ref (am 0)), (3, .ref qo), (4, .int iv)] → W p l e room_1 s m #[Value.ref b] below meth c H1 locs1 (cN + 10) (sN + 60) (lw_Z below #[Value.ref b] s) (F0 m 1511 ls1 [])) : W p l e room_1 s m #[Value.ref b] below meth c H locs cN sN (lw_Z below #[Value.ref b] s) (F0 m 1114 ls []) := by
  obtain ⟨hx, hb, hr, -, -, -, hX, hbl, hlocks, -⟩ := id C0
  have hbA : ¬ A b := by rw [hA]; exact Nat.not_le.mpr hbl
  refine W.widen (k := cN + 0) (n := sN + 0) (Nat.le_refl _) (Nat.le_refl _) ?_
  refine lv_aload_n hx hb dL_law_1114 rfl (lv_at hl 1 rfl) ?_
  have hP := swp_P hP
  have hD := swp_D hD
  rw [List.append_assoc] at hP hD
  refine a_callVv (wr := [(qo, .inl (G.2.2.2.2.1, 1, .inr (.inl fJ)))] ++ zw G MS 51 am gm Lm) (rest := []) li_L_199 C (rX11_forget_0 l G H.size bx a fu g L  rx sx hxx) ⟨(Nat.le_of_ble_eq_true rfl), (Nat.le_of_ble_eq_true rfl), (show cN + 0 + 0 ≤ 601024 from l_le hcN rfl), (show sN + 0 + 0 ≤ 7293033 from l_le hsN rfl)⟩ hP hD hS 0 11 rfl (zat (by decide) xs_0) rfl hl.1 rfl (Nat.le_of_ble_eq_true rfl) dL_law_1115 (fun u_ H locs hw_ hP hD hS => ?_)
  rw [← List.append_assoc] at hP hD
  have hP := swp_P hP
  have hD := swp_D hD
  refine W.widen (k := cN + 0) (n := sN + 0) (Nat.le_refl _) (Nat.le_refl _) ?_
  have hP : va_P G.1 vwCl (zw G MS 51 am gm Lm ++ (zw G (XS bx) 105 a sx.1 sx.2 ++ [(qo, .inl (G.2.2.2.2.1, 1, .inr (.inl fJ)))])) H := hP
  have hD : va_D A (zw G MS 51 am gm Lm ++ (zw G (XS bx) 105 a sx.1 sx.2 ++ [(qo, .inl (G.2.2.2.2.1, 1, .inr (.inl fJ)))])) := hD
  refine lv_aload_n hx hb dL_law_1118 rfl (lv_at hl 2 rfl) ?_
  refine a_callVv (wr := zw G (XS bx) 105 a sx.1 sx.2 ++ [(qo, .inl (G.2.2.2.2.1, 1, .inr (.inl fJ)))]) (rest := []) li_L_202 C (rX12_forget l G H.size am fu gm Lm  rm sm hm) ⟨(Nat.le_of_ble_eq_true rfl), (Nat.le_of_ble_eq_true rfl), (show cN + 0 + 0 ≤ 601024 from l_le hcN rfl), (show sN + 0 + 0 ≤ 7293033 from l_le hsN rfl)⟩ hP hD hS 0 12 rfl (zat (by decide) ms_0) rfl hl.1 rfl (Nat.le_of_ble_eq_true rfl) dL_law_1119 (fun um_ H locs hw_ hP hD hS => ?_)
  refine W.widen (k := cN + 0) (n := sN + 0) (Nat.le_refl _) (Nat.le_refl _) ?_
  have hP : va_P G.1 vwCl (zw G MS 51 am sm.1 sm.2 ++ (zw G (XS bx) 105 a sx.1 sx.2 ++ [(qo, .inl (G.2.2.2.2.1, 1, .inr (.inl fJ)))])) H := hP
  have hD : va_D A (zw G MS 51 am sm.1 sm.2 ++ (zw G (XS bx) 105 a sx.1 sx.2 ++ [(qo, .inl (G.2.2.2.2.1, 1, .inr (.inl fJ)))])) := hD
  refine lv_goto (tgt := 1511) hx hb dL_law_1122 (by decide) ?_
  refine W.widen (k := cN + 10) (n := sN + 60) (by omega) (by omega) ?_
  exact kk bx a fJ H locs ls hP hD hS (lv_sub hl [0, 1, 2, 3, 4] rfl)
set_option maxHeartbeats 4000000 in
set_option maxRecDepth 100000 in
theorem law_26 {p : Program} {e : Env} {s : State} {m : MethodId} {below : List Frame} {meth : Method} {c : Code} {l : Launch} (hst : l.stackTraces = false) {b N : Nat} {xs : Nat → Int32} {G : kG} {A : Nat → Prop} (hN2 : N ≤ 3072) (C0 : lw_At p s m meth c b N xs) (hA : A = fun q : Nat => s.heap.size ≤ q) (C : kC G p s m c cL_law 8 RL A) {i : Nat} {iv : Int32} (hi : iv.toInt = (i : Int)) (hN : i + 6 ≤ N) {bx : Nat} {a am : Nat → Nat} {fu : Nat} {g gm : Nat → Nat → Int32} {L Lm : Nat → Nat → Int64} {qo : Nat} {fJ : Nat → Int64} {cN sN : Nat} (hcN : cN + 10 ≤ 601024) (hsN : sN + 60 ≤ 7293033) {rx : Except String Int32} {sx : zS} {rm : Int32} {sm : zS} (hxx : fX11_fits_0 fu (xs (i + 1)) g L = some (rx, sx)) (hE : ∀ E, rx = .error E → E = "java/util/NoSuchElementException") (hm : fX12_fits fu (xs (i + 1)) gm Lm = some (rm, sm)) {H : Heap} {locs : List Loc} {ls : Array Slot} (hP : va_P G.1 vwCl (zw G MS 51 am gm Lm ++ (zw G (XS bx) 105 a g L ++ [(qo, .inl (G.2.2.2.2.1, 1, .inr (.inl fJ)))])) H) (hD : va_D A (zw G MS 51 am gm Lm ++ (zw G (XS bx) 105 a g L ++ [(qo, .inl (G.2.2.2.2.1, 1, .inr (.inl fJ)))]))) (hS : va_S A s.heap H locs) (hl : lv_has ls 8 [(0, .ref b), (1, .ref (a 0)), (2, .ref (am 0)), (3, .ref qo), (4, .int iv)]) (kk : ∀ (bx2 : Nat) (a2 : Nat → Nat) (fJ2 : Nat → Int64) (H1 : Heap) (locs1 : List Loc) (ls1 : Array Slot), va_P G.1 vwCl (zw G MS 51 am sm.1 sm.2 ++ (zw G (XS bx2) 105 a2 sx.1 sx.2 ++ [(qo, .inl (G.2.2.2.2.1, 1, .inr (.inl fJ2)))])) H1 → va_D A (zw G MS 51 am sm.1 sm.2 ++ (zw G (XS bx2) 105 a2 sx.1 sx.2 ++ [(qo, .inl (G.2.2.2.2.1, 1, .inr (.inl fJ2)))])) → va_S A s.heap H1 locs1 → lv_has ls1 8 [(0, .ref b), (1, .ref (a2 0)), (2, .ref (am 0)), (3, .ref qo), (4, .int iv)] → W p l e room_1 s m #[Value.ref b] below meth c H1 locs1 (cN + 10) (sN + 60) (lw_Z below #[Value.ref b] s) (F0 m 1511 ls1 [])) : W p l e room_1 s m #[Value.ref b] below meth c H locs cN sN (lw_Z below #[Value.ref b] s) (F0 m 1125 ls []) := by
  obtain ⟨hx, hb, hr, -, -, -, hX, hbl, hlocks, -⟩ := id C0
  have hbA : ¬ A b := by rw [hA]; exact Nat.not_le.mpr hbl
  refine W.widen (k := cN + 0) (n := sN + 0) (Nat.le_refl _) (Nat.le_refl _) ?_
  refine lv_aload_n hx hb dL_law_1125 rfl (lv_at hl 1 rfl) ?_
  refine lv_aload_n hx hb dL_law_1126 rfl (lv_at hl 0 rfl) ?_
  refine lv_iload hx hb dL_law_1127 (lv_at hl 4 rfl) ?_
  refine lv_iconst (v := 1) hx hb dL_law_1129 (by decide) ?_
  refine lv_iadd hx hb dL_law_1130 ?_
  refine l_sld (k := 1) hx hb hX hbl hbA hS hi (by decide) (l_lt hN rfl) hN2 dL_law_1131 ?_
  refine lv_aload_n hx hb dL_law_1132 rfl (lv_at hl 3 rfl) ?_
  have hP := swp_P hP
  have hD := swp_D hD
  refine a_callHi (wc := zw G (XS bx) 105 a g L ++ [(qo, .inl (G.2.2.2.2.1, 1, .inr (.inl fJ)))]) (wr := zw G MS 51 am gm Lm) (rest := []) li_L_203 C (wL_fits l hst G H.size bx a fu g L (xs (i + 1)) qo fJ rx sx hxx hE) ⟨(Nat.le_of_ble_eq_true rfl), (Nat.le_of_ble_eq_true rfl), (show cN + 0 + 1 ≤ 601024 from l_le hcN rfl), (show sN + 0 + 6 ≤ 7293033 from l_le hsN rfl)⟩ hP hD hS rfl hl.1 rfl (Nat.le_of_ble_eq_true rfl) dL_law_1133 (fun k_ u_ H locs hwx_ hP hD hS => ?_)
  have hP := swp_P hP
  have hD := swp_D hD
  refine W.widen (k := cN + 1) (n := sN + 6) (Nat.le_refl _) (Nat.le_refl _) ?_
  have hP : va_P G.1 vwCl (zw G MS 51 am gm Lm ++ (zw G (XS bx) 105 a sx.1 sx.2 ++ [(qo, .inl (G.2.2.2.2.1, 1, .inr (.inl u_)))])) H := hP
  have hD : va_D A (zw G MS 51 am gm Lm ++ (zw G (XS bx) 105 a sx.1 sx.2 ++ [(qo, .inl (G.2.2.2.2.1, 1, .inr (.inl u_)))])) := hD
  refine lv_istore (lv' := [(5, .int k_), (0, .ref b), (1, .ref (a 0)), (2, .ref (am 0)), (3, .ref qo), (4, .int iv)]) hx hb dL_law_1136 hl (by decide) rfl (fun ls hl => ?_)
  refine lv_aload_n hx hb dL_law_1138 rfl (lv_at hl 3 rfl) ?_
  refine lv_aload_n hx hb dL_law_1139 rfl (lv_at hl 1 rfl) ?_
  refine lv_iload hx hb dL_law_1140 (lv_at hl 5 rfl) ?_
  refine lv_iconst (v := 1) hx hb dL_law_1142 (by decide) ?_
  refine lv_iadd hx hb dL_law_1143 ?_
  refine l_sld (k := 1) hx hb hX hbl hbA hS hi (by decide) (l_lt hN rfl) hN2 dL_law_1144 ?_
  refine a_callVi (wr := zw G (XS bx) 105 a sx.1 sx.2 ++ [(qo, .inl (G.2.2.2.2.1, 1, .inr (.inl u_)))]) (rest := []) li_L_205 C (rX12_fits l G H.size am fu gm Lm (xs (i + 1)) rm sm hm) ⟨(Nat.le_of_ble_eq_true rfl), (Nat.le_of_ble_eq_true rfl), (show cN + 1 + 0 ≤ 601024 from l_le hcN rfl), (show sN + 6 + 0 ≤ 7293033 from l_le hsN rfl)⟩ hP hD hS 0 12 rfl (zat (by decide) ms_0) rfl hl.1 rfl (Nat.le_of_ble_eq_true rfl) dL_law_1145 (fun r_ um_ H locs hw_ hP hD hS => ?_)
  obtain rfl : rm = r_ := (show r_ = rm from hw_).symm
  refine W.widen (k := cN + 1) (n := sN + 6) (Nat.le_refl _) (Nat.le_refl _) ?_
  have hP : va_P G.1 vwCl (zw G MS 51 am sm.1 sm.2 ++ (zw G (XS bx) 105 a sx.1 sx.2 ++ [(qo, .inl (G.2.2.2.2.1, 1, .inr (.inl u_)))])) H := hP
  have hD : va_D A (zw G MS 51 am sm.1 sm.2 ++ (zw G (XS bx) 105 a sx.1 sx.2 ++ [(qo, .inl (G.2.2.2.2.1, 1, .inr (.inl u_)))])) := hD
  refine lv_istore (lv' := [(6, .int rm), (5, .int k_), (0, .ref b), (1, .ref (a 0)), (2, .ref (am 0)), (3, .ref qo), (4, .int iv)]) hx hb dL_law_1148 hl (by decide) rfl (fun ls hl => ?_)
  refine lv_goto (tgt := 1511) hx hb dL_law_1150 (by decide) ?_
  refine W.widen (k := cN + 10) (n := sN + 60) (by omega) (by omega) ?_
  exact kk bx a u_ H locs ls hP hD hS (lv_sub hl [2, 3, 4, 5, 6] rfl)
set_option maxHeartbeats 4000000 in
set_option maxRecDepth 100000 in
theorem law_27 {p : Program} {e : Env} {s : State} {m : MethodId} {below : List Frame} {meth : Method} {c : Code} {l : Launch} (hst : l.stackTraces = false) {b N : Nat} {xs : Nat → Int32} {G : kG} {A : Nat → Prop} (hN2 : N ≤ 3072) (C0 : lw_At p s m meth c b N xs) (hA : A = fun q : Nat => s.heap.size ≤ q) (C : kC G p s m c cL_law 8 RL A) {i : Nat} {iv : Int32} (hi : iv.toInt = (i : Int)) (hN : i + 6 ≤ N) {bx : Nat} {a am : Nat → Nat} {fu : Nat} {g gm : Nat → Nat → Int32} {L Lm : Nat → Nat → Int64} {qo : Nat} {fJ : Nat → Int64} {cN sN : Nat} (hcN : cN + 10 ≤ 601024) (hsN : sN + 60 ≤ 7293033) {rx : Int32} {sx : zS} {rm : Int32} {sm : zS} (hxx : fX11_streams_0 fu  g L = some (rx, sx)) (hm : fX12_streams fu  gm Lm = some (rm, sm)) {H : Heap} {locs : List Loc} {ls : Array Slot} (hP : va_P G.1 vwCl (zw G MS 51 am gm Lm ++ (zw G (XS bx) 105 a g L ++ [(qo, .inl (G.2.2.2.2.1, 1, .inr (.inl fJ)))])) H) (hD : va_D A (zw G MS 51 am gm Lm ++ (zw G (XS bx) 105 a g L ++ [(qo, .inl (G.2.2.2.2.1, 1, .inr (.inl fJ)))]))) (hS : va_S A s.heap H locs) (hl : lv_has ls 8 [(0, .ref b), (1, .ref (a 0)), (2, .ref (am 0)), (3, .ref qo), (4, .int iv)]) (kk : ∀ (bx2 : Nat) (a2 : Nat → Nat) (fJ2 : Nat → Int64) (H1 : Heap) (locs1 : List Loc) (ls1 : Array Slot), va_P G.1 vwCl (zw G MS 51 am sm.1 sm.2 ++ (zw G (XS bx2) 105 a2 sx.1 sx.2 ++ [(qo, .inl (G.2.2.2.2.1, 1, .inr (.inl fJ2)))])) H1 → va_D A (zw G MS 51 am sm.1 sm.2 ++ (zw G (XS bx2) 105 a2 sx.1 sx.2 ++ [(qo, .inl (G.2.2.2.2.1, 1, .inr (.inl fJ2)))])) → va_S A s.heap H1 locs1 → lv_has ls1 8 [(0, .ref b), (1, .ref (a2 0)), (2, .ref (am 0)), (3, .ref qo), (4, .int iv)] → W p l e room_1 s m #[Value.ref b] below meth c H1 locs1 (cN + 10) (sN + 60) (lw_Z below #[Value.ref b] s) (F0 m 1511 ls1 [])) : W p l e room_1 s m #[Value.ref b] below meth c H locs cN sN (lw_Z below #[Value.ref b] s) (F0 m 1153 ls []) := by
  obtain ⟨hx, hb, hr, -, -, -, hX, hbl, hlocks, -⟩ := id C0
  have hbA : ¬ A b := by rw [hA]; exact Nat.not_le.mpr hbl
  refine W.widen (k := cN + 0) (n := sN + 0) (Nat.le_refl _) (Nat.le_refl _) ?_
  refine lv_aload_n hx hb dL_law_1153 rfl (lv_at hl 1 rfl) ?_
  have hP := swp_P hP
  have hD := swp_D hD
  rw [List.append_assoc] at hP hD
  refine a_callVi (wr := [(qo, .inl (G.2.2.2.2.1, 1, .inr (.inl fJ)))] ++ zw G MS 51 am gm Lm) (rest := []) li_L_206 C (rX11_streams_0 l G H.size bx a fu g L  rx sx hxx) ⟨(Nat.le_of_ble_eq_true rfl), (Nat.le_of_ble_eq_true rfl), (show cN + 0 + 0 ≤ 601024 from l_le hcN rfl), (show sN + 0 + 0 ≤ 7293033 from l_le hsN rfl)⟩ hP hD hS 0 11 rfl (zat (by decide) xs_0) rfl hl.1 rfl (Nat.le_of_ble_eq_true rfl) dL_law_1154 (fun r_ u_ H locs hw_ hP hD hS => ?_)
  rw [← List.append_assoc] at hP hD
  have hP := swp_P hP
  have hD := swp_D hD
  obtain rfl : rx = r_ := (show r_ = rx from hw_).symm
  refine W.widen (k := cN + 0) (n := sN + 0) (Nat.le_refl _) (Nat.le_refl _) ?_
  have hP : va_P G.1 vwCl (zw G MS 51 am gm Lm ++ (zw G (XS bx) 105 a sx.1 sx.2 ++ [(qo, .inl (G.2.2.2.2.1, 1, .inr (.inl fJ)))])) H := hP
  have hD : va_D A (zw G MS 51 am gm Lm ++ (zw G (XS bx) 105 a sx.1 sx.2 ++ [(qo, .inl (G.2.2.2.2.1, 1, .inr (.inl fJ)))])) := hD
  refine lv_pop hx hb dL_law_1157 rfl ?_
  refine lv_aload_n hx hb dL_law_1158 rfl (lv_at hl 2 rfl) ?_
  refine a_callVi (wr := zw G (XS bx) 105 a sx.1 sx.2 ++ [(qo, .inl (G.2.2.2.2.1, 1, .inr (.inl fJ)))]) (rest := []) li_L_209 C (rX12_streams l G H.size am fu gm Lm  rm sm hm) ⟨(Nat.le_of_ble_eq_true rfl), (Nat.le_of_ble_eq_true rfl), (show cN + 0 + 0 ≤ 601024 from l_le hcN rfl), (show sN + 0 + 0 ≤ 7293033 from l_le hsN rfl)⟩ hP hD hS 0 12 rfl (zat (by decide) ms_0) rfl hl.1 rfl (Nat.le_of_ble_eq_true rfl) dL_law_1159 (fun r_ um_ H locs hw_ hP hD hS => ?_)
  obtain rfl : rm = r_ := (show r_ = rm from hw_).symm
  refine W.widen (k := cN + 0) (n := sN + 0) (Nat.le_refl _) (Nat.le_refl _) ?_
  have hP : va_P G.1 vwCl (zw G MS 51 am sm.1 sm.2 ++ (zw G (XS bx) 105 a sx.1 sx.2 ++ [(qo, .inl (G.2.2.2.2.1, 1, .inr (.inl fJ)))])) H := hP
  have hD : va_D A (zw G MS 51 am sm.1 sm.2 ++ (zw G (XS bx) 105 a sx.1 sx.2 ++ [(qo, .inl (G.2.2.2.2.1, 1, .inr (.inl fJ)))])) := hD
  refine lv_pop hx hb dL_law_1162 rfl ?_
  refine lv_goto (tgt := 1511) hx hb dL_law_1163 (by decide) ?_
  refine W.widen (k := cN + 10) (n := sN + 60) (by omega) (by omega) ?_
  exact kk bx a fJ H locs ls hP hD hS (lv_sub hl [0, 1, 2, 3, 4] rfl)
set_option maxHeartbeats 4000000 in
set_option maxRecDepth 100000 in
theorem law_28 {p : Program} {e : Env} {s : State} {m : MethodId} {below : List Frame} {meth : Method} {c : Code} {l : Launch} (hst : l.stackTraces = false) {b N : Nat} {xs : Nat → Int32} {G : kG} {A : Nat → Prop} (hN2 : N ≤ 3072) (C0 : lw_At p s m meth c b N xs) (hA : A = fun q : Nat => s.heap.size ≤ q) (C : kC G p s m c cL_law 8 RL A) {i : Nat} {iv : Int32} (hi : iv.toInt = (i : Int)) (hN : i + 6 ≤ N) {bx : Nat} {a am : Nat → Nat} {fu : Nat} {g gm : Nat → Nat → Int32} {L Lm : Nat → Nat → Int64} {qo : Nat} {fJ : Nat → Int64} {cN sN : Nat} (hcN : cN + 10 ≤ 601024) (hsN : sN + 60 ≤ 7293033) {rx : Except String Int32} {sx : zS} {rm : Int32} {sm : zS} (hxx : fX11_term_0 fu (xs (i + 1)) (xs (i + 2)) (xs (i + 3)) (xs (i + 4)) g L = some (rx, sx)) (hE : ∀ E, rx = .error E → E = "java/util/NoSuchElementException" ∨ E = "java/lang/IllegalArgumentException") (hm : fX12_term fu (xs (i + 1)) (xs (i + 2)) (xs (i + 3)) (xs (i + 4)) gm Lm = some (rm, sm)) {H : Heap} {locs : List Loc} {ls : Array Slot} (hP : va_P G.1 vwCl (zw G MS 51 am gm Lm ++ (zw G (XS bx) 105 a g L ++ [(qo, .inl (G.2.2.2.2.1, 1, .inr (.inl fJ)))])) H) (hD : va_D A (zw G MS 51 am gm Lm ++ (zw G (XS bx) 105 a g L ++ [(qo, .inl (G.2.2.2.2.1, 1, .inr (.inl fJ)))]))) (hS : va_S A s.heap H locs) (hl : lv_has ls 8 [(0, .ref b), (1, .ref (a 0)), (2, .ref (am 0)), (3, .ref qo), (4, .int iv)]) (kk : ∀ (bx2 : Nat) (a2 : Nat → Nat) (fJ2 : Nat → Int64) (H1 : Heap) (locs1 : List Loc) (ls1 : Array Slot), va_P G.1 vwCl (zw G MS 51 am sm.1 sm.2 ++ (zw G (XS bx2) 105 a2 sx.1 sx.2 ++ [(qo, .inl (G.2.2.2.2.1, 1, .inr (.inl fJ2)))])) H1 → va_D A (zw G MS 51 am sm.1 sm.2 ++ (zw G (XS bx2) 105 a2 sx.1 sx.2 ++ [(qo, .inl (G.2.2.2.2.1, 1, .inr (.inl fJ2)))])) → va_S A s.heap H1 locs1 → lv_has ls1 8 [(0, .ref b), (1, .ref (a2 0)), (2, .ref (am 0)), (3, .ref qo), (4, .int iv)] → W p l e room_1 s m #[Value.ref b] below meth c H1 locs1 (cN + 10) (sN + 60) (lw_Z below #[Value.ref b] s) (F0 m 1511 ls1 [])) : W p l e room_1 s m #[Value.ref b] below meth c H locs cN sN (lw_Z below #[Value.ref b] s) (F0 m 1166 ls []) := by
  obtain ⟨hx, hb, hr, -, -, -, hX, hbl, hlocks, -⟩ := id C0
  have hbA : ¬ A b := by rw [hA]; exact Nat.not_le.mpr hbl
  refine W.widen (k := cN + 0) (n := sN + 0) (Nat.le_refl _) (Nat.le_refl _) ?_
  refine lv_aload_n hx hb dL_law_1166 rfl (lv_at hl 1 rfl) ?_
  refine lv_aload_n hx hb dL_law_1167 rfl (lv_at hl 0 rfl) ?_
  refine lv_iload hx hb dL_law_1168 (lv_at hl 4 rfl) ?_
  refine lv_iconst (v := 1) hx hb dL_law_1170 (by decide) ?_
  refine lv_iadd hx hb dL_law_1171 ?_
  refine l_sld (k := 1) hx hb hX hbl hbA hS hi (by decide) (l_lt hN rfl) hN2 dL_law_1172 ?_
  refine lv_aload_n hx hb dL_law_1173 rfl (lv_at hl 0 rfl) ?_
  refine lv_iload hx hb dL_law_1174 (lv_at hl 4 rfl) ?_
  refine lv_iconst (v := 2) hx hb dL_law_1176 (by decide) ?_
  refine lv_iadd hx hb dL_law_1177 ?_
  refine l_sld (k := 2) hx hb hX hbl hbA hS hi (by decide) (l_lt hN rfl) hN2 dL_law_1178 ?_
  refine lv_aload_n hx hb dL_law_1179 rfl (lv_at hl 0 rfl) ?_
  refine lv_iload hx hb dL_law_1180 (lv_at hl 4 rfl) ?_
  refine lv_iconst (v := 3) hx hb dL_law_1182 (by decide) ?_
  refine lv_iadd hx hb dL_law_1183 ?_
  refine l_sld (k := 3) hx hb hX hbl hbA hS hi (by decide) (l_lt hN rfl) hN2 dL_law_1184 ?_
  refine lv_aload_n hx hb dL_law_1185 rfl (lv_at hl 0 rfl) ?_
  refine lv_iload hx hb dL_law_1186 (lv_at hl 4 rfl) ?_
  refine lv_iconst (v := 4) hx hb dL_law_1188 (by decide) ?_
  refine lv_iadd hx hb dL_law_1189 ?_
  refine l_sld (k := 4) hx hb hX hbl hbA hS hi (by decide) (l_lt hN rfl) hN2 dL_law_1190 ?_
  refine lv_aload_n hx hb dL_law_1191 rfl (lv_at hl 3 rfl) ?_
  have hP := swp_P hP
  have hD := swp_D hD
  refine a_callHi (wc := zw G (XS bx) 105 a g L ++ [(qo, .inl (G.2.2.2.2.1, 1, .inr (.inl fJ)))]) (wr := zw G MS 51 am gm Lm) (rest := []) li_L_210 C (wL_term l hst G H.size bx a fu g L (xs (i + 1)) (xs (i + 2)) (xs (i + 3)) (xs (i + 4)) qo fJ rx sx hxx hE) ⟨(Nat.le_of_ble_eq_true rfl), (Nat.le_of_ble_eq_true rfl), (show cN + 0 + 3 ≤ 601024 from l_le hcN rfl), (show sN + 0 + 18 ≤ 7293033 from l_le hsN rfl)⟩ hP hD hS rfl hl.1 rfl (Nat.le_of_ble_eq_true rfl) dL_law_1192 (fun k_ u_ H locs hwx_ hP hD hS => ?_)
  have hP := swp_P hP
  have hD := swp_D hD
  refine W.widen (k := cN + 3) (n := sN + 18) (Nat.le_refl _) (Nat.le_refl _) ?_
  have hP : va_P G.1 vwCl (zw G MS 51 am gm Lm ++ (zw G (XS bx) 105 a sx.1 sx.2 ++ [(qo, .inl (G.2.2.2.2.1, 1, .inr (.inl u_)))])) H := hP
  have hD : va_D A (zw G MS 51 am gm Lm ++ (zw G (XS bx) 105 a sx.1 sx.2 ++ [(qo, .inl (G.2.2.2.2.1, 1, .inr (.inl u_)))])) := hD
  refine lv_istore (lv' := [(5, .int k_), (0, .ref b), (1, .ref (a 0)), (2, .ref (am 0)), (3, .ref qo), (4, .int iv)]) hx hb dL_law_1195 hl (by decide) rfl (fun ls hl => ?_)
  refine lv_aload_n hx hb dL_law_1197 rfl (lv_at hl 3 rfl) ?_
  refine lv_aload_n hx hb dL_law_1198 rfl (lv_at hl 1 rfl) ?_
  refine lv_iload hx hb dL_law_1199 (lv_at hl 5 rfl) ?_
  refine lv_iconst (v := 1) hx hb dL_law_1201 (by decide) ?_
  refine lv_iadd hx hb dL_law_1202 ?_
  refine l_sld (k := 1) hx hb hX hbl hbA hS hi (by decide) (l_lt hN rfl) hN2 dL_law_1203 ?_
  refine lv_aload_n hx hb dL_law_1204 rfl (lv_at hl 1 rfl) ?_
  refine lv_iload hx hb dL_law_1205 (lv_at hl 5 rfl) ?_
  refine lv_iconst (v := 2) hx hb dL_law_1207 (by decide) ?_
  refine lv_iadd hx hb dL_law_1208 ?_
  refine l_sld (k := 2) hx hb hX hbl hbA hS hi (by decide) (l_lt hN rfl) hN2 dL_law_1209 ?_
  refine lv_aload_n hx hb dL_law_1210 rfl (lv_at hl 1 rfl) ?_
  refine lv_iload hx hb dL_law_1211 (lv_at hl 5 rfl) ?_
  refine lv_iconst (v := 3) hx hb dL_law_1213 (by decide) ?_
  refine lv_iadd hx hb dL_law_1214 ?_
  refine l_sld (k := 3) hx hb hX hbl hbA hS hi (by decide) (l_lt hN rfl) hN2 dL_law_1215 ?_
  refine lv_aload_n hx hb dL_law_1216 rfl (lv_at hl 1 rfl) ?_
  refine lv_iload hx hb dL_law_1217 (lv_at hl 5 rfl) ?_
  refine lv_iconst (v := 4) hx hb dL_law_1219 (by decide) ?_
  refine lv_iadd hx hb dL_law_1220 ?_
  refine l_sld (k := 4) hx hb hX hbl hbA hS hi (by decide) (l_lt hN rfl) hN2 dL_law_1221 ?_
  refine a_callVi (wr := zw G (XS bx) 105 a sx.1 sx.2 ++ [(qo, .inl (G.2.2.2.2.1, 1, .inr (.inl u_)))]) (rest := []) li_L_213 C (rX12_term l G H.size am fu gm Lm (xs (i + 1)) (xs (i + 2)) (xs (i + 3)) (xs (i + 4)) rm sm hm) ⟨(Nat.le_of_ble_eq_true rfl), (Nat.le_of_ble_eq_true rfl), (show cN + 3 + 0 ≤ 601024 from l_le hcN rfl), (show sN + 18 + 0 ≤ 7293033 from l_le hsN rfl)⟩ hP hD hS 0 12 rfl (zat (by decide) ms_0) rfl hl.1 rfl (Nat.le_of_ble_eq_true rfl) dL_law_1222 (fun r_ um_ H locs hw_ hP hD hS => ?_)
  obtain rfl : rm = r_ := (show r_ = rm from hw_).symm
  refine W.widen (k := cN + 3) (n := sN + 18) (Nat.le_refl _) (Nat.le_refl _) ?_
  have hP : va_P G.1 vwCl (zw G MS 51 am sm.1 sm.2 ++ (zw G (XS bx) 105 a sx.1 sx.2 ++ [(qo, .inl (G.2.2.2.2.1, 1, .inr (.inl u_)))])) H := hP
  have hD : va_D A (zw G MS 51 am sm.1 sm.2 ++ (zw G (XS bx) 105 a sx.1 sx.2 ++ [(qo, .inl (G.2.2.2.2.1, 1, .inr (.inl u_)))])) := hD
  refine lv_istore (lv' := [(6, .int rm), (5, .int k_), (0, .ref b), (1, .ref (a 0)), (2, .ref (am 0)), (3, .ref qo), (4, .int iv)]) hx hb dL_law_1225 hl (by decide) rfl (fun ls hl => ?_)
  refine lv_goto (tgt := 1511) hx hb dL_law_1227 (by decide) ?_
  refine W.widen (k := cN + 10) (n := sN + 60) (by omega) (by omega) ?_
  exact kk bx a u_ H locs ls hP hD hS (lv_sub hl [2, 3, 4, 5, 6] rfl)
set_option maxHeartbeats 4000000 in
set_option maxRecDepth 100000 in
theorem law_29 {p : Program} {e : Env} {s : State} {m : MethodId} {below : List Frame} {meth : Method} {c : Code} {l : Launch} (hst : l.stackTraces = false) {b N : Nat} {xs : Nat → Int32} {G : kG} {A : Nat → Prop} (hN2 : N ≤ 3072) (C0 : lw_At p s m meth c b N xs) (hA : A = fun q : Nat => s.heap.size ≤ q) (C : kC G p s m c cL_law 8 RL A) {i : Nat} {iv : Int32} (hi : iv.toInt = (i : Int)) (hN : i + 6 ≤ N) {bx : Nat} {a am : Nat → Nat} {fu : Nat} {g gm : Nat → Nat → Int32} {L Lm : Nat → Nat → Int64} {qo : Nat} {fJ : Nat → Int64} {cN sN : Nat} (hcN : cN + 10 ≤ 601024) (hsN : sN + 60 ≤ 7293033) {rx : Except String Int32} {sx : zS} {rm : Int32} {sm : zS} (hxx : fX11_on_0 fu (xs (i + 1)) (xs (i + 2)) g L = some (rx, sx)) (hE : ∀ E, rx = .error E → E = "java/util/NoSuchElementException" ∨ E = "java/lang/IllegalArgumentException") (hm : fX12_on fu (xs (i + 1)) (xs (i + 2)) gm Lm = some (rm, sm)) {H : Heap} {locs : List Loc} {ls : Array Slot} (hP : va_P G.1 vwCl (zw G MS 51 am gm Lm ++ (zw G (XS bx) 105 a g L ++ [(qo, .inl (G.2.2.2.2.1, 1, .inr (.inl fJ)))])) H) (hD : va_D A (zw G MS 51 am gm Lm ++ (zw G (XS bx) 105 a g L ++ [(qo, .inl (G.2.2.2.2.1, 1, .inr (.inl fJ)))]))) (hS : va_S A s.heap H locs) (hl : lv_has ls 8 [(0, .ref b), (1, .ref (a 0)), (2, .ref (am 0)), (3, .ref qo), (4, .int iv)]) (kk : ∀ (bx2 : Nat) (a2 : Nat → Nat) (fJ2 : Nat → Int64) (H1 : Heap) (locs1 : List Loc) (ls1 : Array Slot), va_P G.1 vwCl (zw G MS 51 am sm.1 sm.2 ++ (zw G (XS bx2) 105 a2 sx.1 sx.2 ++ [(qo, .inl (G.2.2.2.2.1, 1, .inr (.inl fJ2)))])) H1 → va_D A (zw G MS 51 am sm.1 sm.2 ++ (zw G (XS bx2) 105 a2 sx.1 sx.2 ++ [(qo, .inl (G.2.2.2.2.1, 1, .inr (.inl fJ2)))])) → va_S A s.heap H1 locs1 → lv_has ls1 8 [(0, .ref b), (1, .ref (a2 0)), (2, .ref (am 0)), (3, .ref qo), (4, .int iv)] → W p l e room_1 s m #[Value.ref b] below meth c H1 locs1 (cN + 10) (sN + 60) (lw_Z below #[Value.ref b] s) (F0 m 1511 ls1 [])) : W p l e room_1 s m #[Value.ref b] below meth c H locs cN sN (lw_Z below #[Value.ref b] s) (F0 m 1230 ls []) := by
  obtain ⟨hx, hb, hr, -, -, -, hX, hbl, hlocks, -⟩ := id C0
  have hbA : ¬ A b := by rw [hA]; exact Nat.not_le.mpr hbl
  refine W.widen (k := cN + 0) (n := sN + 0) (Nat.le_refl _) (Nat.le_refl _) ?_
  refine lv_aload_n hx hb dL_law_1230 rfl (lv_at hl 1 rfl) ?_
  refine lv_aload_n hx hb dL_law_1231 rfl (lv_at hl 0 rfl) ?_
  refine lv_iload hx hb dL_law_1232 (lv_at hl 4 rfl) ?_
  refine lv_iconst (v := 1) hx hb dL_law_1234 (by decide) ?_
  refine lv_iadd hx hb dL_law_1235 ?_
  refine l_sld (k := 1) hx hb hX hbl hbA hS hi (by decide) (l_lt hN rfl) hN2 dL_law_1236 ?_
  refine lv_aload_n hx hb dL_law_1237 rfl (lv_at hl 0 rfl) ?_
  refine lv_iload hx hb dL_law_1238 (lv_at hl 4 rfl) ?_
  refine lv_iconst (v := 2) hx hb dL_law_1240 (by decide) ?_
  refine lv_iadd hx hb dL_law_1241 ?_
  refine l_sld (k := 2) hx hb hX hbl hbA hS hi (by decide) (l_lt hN rfl) hN2 dL_law_1242 ?_
  refine lv_aload_n hx hb dL_law_1243 rfl (lv_at hl 3 rfl) ?_
  have hP := swp_P hP
  have hD := swp_D hD
  refine a_callHi (wc := zw G (XS bx) 105 a g L ++ [(qo, .inl (G.2.2.2.2.1, 1, .inr (.inl fJ)))]) (wr := zw G MS 51 am gm Lm) (rest := []) li_L_214 C (wL_on l hst G H.size bx a fu g L (xs (i + 1)) (xs (i + 2)) qo fJ rx sx hxx hE) ⟨(Nat.le_of_ble_eq_true rfl), (Nat.le_of_ble_eq_true rfl), (show cN + 0 + 2 ≤ 601024 from l_le hcN rfl), (show sN + 0 + 12 ≤ 7293033 from l_le hsN rfl)⟩ hP hD hS rfl hl.1 rfl (Nat.le_of_ble_eq_true rfl) dL_law_1244 (fun k_ u_ H locs hwx_ hP hD hS => ?_)
  have hP := swp_P hP
  have hD := swp_D hD
  refine W.widen (k := cN + 2) (n := sN + 12) (Nat.le_refl _) (Nat.le_refl _) ?_
  have hP : va_P G.1 vwCl (zw G MS 51 am gm Lm ++ (zw G (XS bx) 105 a sx.1 sx.2 ++ [(qo, .inl (G.2.2.2.2.1, 1, .inr (.inl u_)))])) H := hP
  have hD : va_D A (zw G MS 51 am gm Lm ++ (zw G (XS bx) 105 a sx.1 sx.2 ++ [(qo, .inl (G.2.2.2.2.1, 1, .inr (.inl u_)))])) := hD
  refine lv_istore (lv' := [(5, .int k_), (0, .ref b), (1, .ref (a 0)), (2, .ref (am 0)), (3, .ref qo), (4, .int iv)]) hx hb dL_law_1247 hl (by decide) rfl (fun ls hl => ?_)
  refine lv_aload_n hx hb dL_law_1249 rfl (lv_at hl 3 rfl) ?_
  refine lv_aload_n hx hb dL_law_1250 rfl (lv_at hl 1 rfl) ?_
  refine lv_iload hx hb dL_law_1251 (lv_at hl 5 rfl) ?_
  refine lv_iconst (v := 1) hx hb dL_law_1253 (by decide) ?_
  refine lv_iadd hx hb dL_law_1254 ?_
  refine l_sld (k := 1) hx hb hX hbl hbA hS hi (by decide) (l_lt hN rfl) hN2 dL_law_1255 ?_
  refine lv_aload_n hx hb dL_law_1256 rfl (lv_at hl 1 rfl) ?_
  refine lv_iload hx hb dL_law_1257 (lv_at hl 5 rfl) ?_
  refine lv_iconst (v := 2) hx hb dL_law_1259 (by decide) ?_
  refine lv_iadd hx hb dL_law_1260 ?_
  refine l_sld (k := 2) hx hb hX hbl hbA hS hi (by decide) (l_lt hN rfl) hN2 dL_law_1261 ?_
  refine a_callVi (wr := zw G (XS bx) 105 a sx.1 sx.2 ++ [(qo, .inl (G.2.2.2.2.1, 1, .inr (.inl u_)))]) (rest := []) li_L_216 C (rX12_on l G H.size am fu gm Lm (xs (i + 1)) (xs (i + 2)) rm sm hm) ⟨(Nat.le_of_ble_eq_true rfl), (Nat.le_of_ble_eq_true rfl), (show cN + 2 + 0 ≤ 601024 from l_le hcN rfl), (show sN + 12 + 0 ≤ 7293033 from l_le hsN rfl)⟩ hP hD hS 0 12 rfl (zat (by decide) ms_0) rfl hl.1 rfl (Nat.le_of_ble_eq_true rfl) dL_law_1262 (fun r_ um_ H locs hw_ hP hD hS => ?_)
  obtain rfl : rm = r_ := (show r_ = rm from hw_).symm
  refine W.widen (k := cN + 2) (n := sN + 12) (Nat.le_refl _) (Nat.le_refl _) ?_
  have hP : va_P G.1 vwCl (zw G MS 51 am sm.1 sm.2 ++ (zw G (XS bx) 105 a sx.1 sx.2 ++ [(qo, .inl (G.2.2.2.2.1, 1, .inr (.inl u_)))])) H := hP
  have hD : va_D A (zw G MS 51 am sm.1 sm.2 ++ (zw G (XS bx) 105 a sx.1 sx.2 ++ [(qo, .inl (G.2.2.2.2.1, 1, .inr (.inl u_)))])) := hD
  refine lv_istore (lv' := [(6, .int rm), (5, .int k_), (0, .ref b), (1, .ref (a 0)), (2, .ref (am 0)), (3, .ref qo), (4, .int iv)]) hx hb dL_law_1265 hl (by decide) rfl (fun ls hl => ?_)
  refine lv_goto (tgt := 1511) hx hb dL_law_1267 (by decide) ?_
  refine W.widen (k := cN + 10) (n := sN + 60) (by omega) (by omega) ?_
  exact kk bx a u_ H locs ls hP hD hS (lv_sub hl [2, 3, 4, 5, 6] rfl)
set_option maxHeartbeats 4000000 in
set_option maxRecDepth 100000 in
theorem law_30 {p : Program} {e : Env} {s : State} {m : MethodId} {below : List Frame} {meth : Method} {c : Code} {l : Launch} (hst : l.stackTraces = false) {b N : Nat} {xs : Nat → Int32} {G : kG} {A : Nat → Prop} (hN2 : N ≤ 3072) (C0 : lw_At p s m meth c b N xs) (hA : A = fun q : Nat => s.heap.size ≤ q) (C : kC G p s m c cL_law 8 RL A) {i : Nat} {iv : Int32} (hi : iv.toInt = (i : Int)) (hN : i + 6 ≤ N) {bx : Nat} {a am : Nat → Nat} {fu : Nat} {g gm : Nat → Nat → Int32} {L Lm : Nat → Nat → Int64} {qo : Nat} {fJ : Nat → Int64} {cN sN : Nat} (hcN : cN + 10 ≤ 601024) (hsN : sN + 60 ≤ 7293033) {rx : Except String Int32} {sx : zS} {rm : Int32} {sm : zS} (hxx : fX11_clash_0 fu (xs (i + 1)) g L = some (rx, sx)) (hE : ∀ E, rx = .error E → E = "java/util/NoSuchElementException") (hm : fX12_clash fu (xs (i + 1)) gm Lm = some (rm, sm)) {H : Heap} {locs : List Loc} {ls : Array Slot} (hP : va_P G.1 vwCl (zw G MS 51 am gm Lm ++ (zw G (XS bx) 105 a g L ++ [(qo, .inl (G.2.2.2.2.1, 1, .inr (.inl fJ)))])) H) (hD : va_D A (zw G MS 51 am gm Lm ++ (zw G (XS bx) 105 a g L ++ [(qo, .inl (G.2.2.2.2.1, 1, .inr (.inl fJ)))]))) (hS : va_S A s.heap H locs) (hl : lv_has ls 8 [(0, .ref b), (1, .ref (a 0)), (2, .ref (am 0)), (3, .ref qo), (4, .int iv)]) (kk : ∀ (bx2 : Nat) (a2 : Nat → Nat) (fJ2 : Nat → Int64) (H1 : Heap) (locs1 : List Loc) (ls1 : Array Slot), va_P G.1 vwCl (zw G MS 51 am sm.1 sm.2 ++ (zw G (XS bx2) 105 a2 sx.1 sx.2 ++ [(qo, .inl (G.2.2.2.2.1, 1, .inr (.inl fJ2)))])) H1 → va_D A (zw G MS 51 am sm.1 sm.2 ++ (zw G (XS bx2) 105 a2 sx.1 sx.2 ++ [(qo, .inl (G.2.2.2.2.1, 1, .inr (.inl fJ2)))])) → va_S A s.heap H1 locs1 → lv_has ls1 8 [(0, .ref b), (1, .ref (a2 0)), (2, .ref (am 0)), (3, .ref qo), (4, .int iv)] → W p l e room_1 s m #[Value.ref b] below meth c H1 locs1 (cN + 10) (sN + 60) (lw_Z below #[Value.ref b] s) (F0 m 1511 ls1 [])) : W p l e room_1 s m #[Value.ref b] below meth c H locs cN sN (lw_Z below #[Value.ref b] s) (F0 m 1270 ls []) := by
  obtain ⟨hx, hb, hr, -, -, -, hX, hbl, hlocks, -⟩ := id C0
  have hbA : ¬ A b := by rw [hA]; exact Nat.not_le.mpr hbl
  refine W.widen (k := cN + 0) (n := sN + 0) (Nat.le_refl _) (Nat.le_refl _) ?_
  refine lv_aload_n hx hb dL_law_1270 rfl (lv_at hl 1 rfl) ?_
  refine lv_aload_n hx hb dL_law_1271 rfl (lv_at hl 0 rfl) ?_
  refine lv_iload hx hb dL_law_1272 (lv_at hl 4 rfl) ?_
  refine lv_iconst (v := 1) hx hb dL_law_1274 (by decide) ?_
  refine lv_iadd hx hb dL_law_1275 ?_
  refine l_sld (k := 1) hx hb hX hbl hbA hS hi (by decide) (l_lt hN rfl) hN2 dL_law_1276 ?_
  refine lv_aload_n hx hb dL_law_1277 rfl (lv_at hl 3 rfl) ?_
  have hP := swp_P hP
  have hD := swp_D hD
  refine a_callHi (wc := zw G (XS bx) 105 a g L ++ [(qo, .inl (G.2.2.2.2.1, 1, .inr (.inl fJ)))]) (wr := zw G MS 51 am gm Lm) (rest := []) li_L_217 C (wL_clash l hst G H.size bx a fu g L (xs (i + 1)) qo fJ rx sx hxx hE) ⟨(Nat.le_of_ble_eq_true rfl), (Nat.le_of_ble_eq_true rfl), (show cN + 0 + 1 ≤ 601024 from l_le hcN rfl), (show sN + 0 + 6 ≤ 7293033 from l_le hsN rfl)⟩ hP hD hS rfl hl.1 rfl (Nat.le_of_ble_eq_true rfl) dL_law_1278 (fun k_ u_ H locs hwx_ hP hD hS => ?_)
  have hP := swp_P hP
  have hD := swp_D hD
  refine W.widen (k := cN + 1) (n := sN + 6) (Nat.le_refl _) (Nat.le_refl _) ?_
  have hP : va_P G.1 vwCl (zw G MS 51 am gm Lm ++ (zw G (XS bx) 105 a sx.1 sx.2 ++ [(qo, .inl (G.2.2.2.2.1, 1, .inr (.inl u_)))])) H := hP
  have hD : va_D A (zw G MS 51 am gm Lm ++ (zw G (XS bx) 105 a sx.1 sx.2 ++ [(qo, .inl (G.2.2.2.2.1, 1, .inr (.inl u_)))])) := hD
  refine lv_istore (lv' := [(5, .int k_), (0, .ref b), (1, .ref (a 0)), (2, .ref (am 0)), (3, .ref qo), (4, .int iv)]) hx hb dL_law_1281 hl (by decide) rfl (fun ls hl => ?_)
  refine lv_aload_n hx hb dL_law_1283 rfl (lv_at hl 3 rfl) ?_
  refine lv_aload_n hx hb dL_law_1284 rfl (lv_at hl 1 rfl) ?_
  refine lv_iload hx hb dL_law_1285 (lv_at hl 5 rfl) ?_
  refine lv_iconst (v := 1) hx hb dL_law_1287 (by decide) ?_
  refine lv_iadd hx hb dL_law_1288 ?_
  refine l_sld (k := 1) hx hb hX hbl hbA hS hi (by decide) (l_lt hN rfl) hN2 dL_law_1289 ?_
  refine a_callVi (wr := zw G (XS bx) 105 a sx.1 sx.2 ++ [(qo, .inl (G.2.2.2.2.1, 1, .inr (.inl u_)))]) (rest := []) li_L_219 C (rX12_clash l G H.size am fu gm Lm (xs (i + 1)) rm sm hm) ⟨(Nat.le_of_ble_eq_true rfl), (Nat.le_of_ble_eq_true rfl), (show cN + 1 + 0 ≤ 601024 from l_le hcN rfl), (show sN + 6 + 0 ≤ 7293033 from l_le hsN rfl)⟩ hP hD hS 0 12 rfl (zat (by decide) ms_0) rfl hl.1 rfl (Nat.le_of_ble_eq_true rfl) dL_law_1290 (fun r_ um_ H locs hw_ hP hD hS => ?_)
  obtain rfl : rm = r_ := (show r_ = rm from hw_).symm
  refine W.widen (k := cN + 1) (n := sN + 6) (Nat.le_refl _) (Nat.le_refl _) ?_
  have hP : va_P G.1 vwCl (zw G MS 51 am sm.1 sm.2 ++ (zw G (XS bx) 105 a sx.1 sx.2 ++ [(qo, .inl (G.2.2.2.2.1, 1, .inr (.inl u_)))])) H := hP
  have hD : va_D A (zw G MS 51 am sm.1 sm.2 ++ (zw G (XS bx) 105 a sx.1 sx.2 ++ [(qo, .inl (G.2.2.2.2.1, 1, .inr (.inl u_)))])) := hD
  refine lv_istore (lv' := [(6, .int rm), (5, .int k_), (0, .ref b), (1, .ref (a 0)), (2, .ref (am 0)), (3, .ref qo), (4, .int iv)]) hx hb dL_law_1293 hl (by decide) rfl (fun ls hl => ?_)
  refine lv_goto (tgt := 1511) hx hb dL_law_1295 (by decide) ?_
  refine W.widen (k := cN + 10) (n := sN + 60) (by omega) (by omega) ?_
  exact kk bx a u_ H locs ls hP hD hS (lv_sub hl [2, 3, 4, 5, 6] rfl)
set_option maxHeartbeats 4000000 in
set_option maxRecDepth 100000 in
theorem law_31 {p : Program} {e : Env} {s : State} {m : MethodId} {below : List Frame} {meth : Method} {c : Code} {l : Launch} (hst : l.stackTraces = false) {b N : Nat} {xs : Nat → Int32} {G : kG} {A : Nat → Prop} (hN2 : N ≤ 3072) (C0 : lw_At p s m meth c b N xs) (hA : A = fun q : Nat => s.heap.size ≤ q) (C : kC G p s m c cL_law 8 RL A) {i : Nat} {iv : Int32} (hi : iv.toInt = (i : Int)) (hN : i + 6 ≤ N) {bx : Nat} {a am : Nat → Nat} {fu : Nat} {g gm : Nat → Nat → Int32} {L Lm : Nat → Nat → Int64} {qo : Nat} {fJ : Nat → Int64} {cN sN : Nat} (hcN : cN + 10 ≤ 601024) (hsN : sN + 60 ≤ 7293033) {rx : Except String Int32} {sx : zS} {rm : Int32} {sm : zS} (hxx : fX11_busiest_0 fu (xs (i + 1)) g L = some (rx, sx)) (hE : ∀ E, rx = .error E → E = "java/util/NoSuchElementException") (hm : fX12_busiest fu (xs (i + 1)) gm Lm = some (rm, sm)) {H : Heap} {locs : List Loc} {ls : Array Slot} (hP : va_P G.1 vwCl (zw G MS 51 am gm Lm ++ (zw G (XS bx) 105 a g L ++ [(qo, .inl (G.2.2.2.2.1, 1, .inr (.inl fJ)))])) H) (hD : va_D A (zw G MS 51 am gm Lm ++ (zw G (XS bx) 105 a g L ++ [(qo, .inl (G.2.2.2.2.1, 1, .inr (.inl fJ)))]))) (hS : va_S A s.heap H locs) (hl : lv_has ls 8 [(0, .ref b), (1, .ref (a 0)), (2, .ref (am 0)), (3, .ref qo), (4, .int iv)]) (kk : ∀ (bx2 : Nat) (a2 : Nat → Nat) (fJ2 : Nat → Int64) (H1 : Heap) (locs1 : List Loc) (ls1 : Array Slot), va_P G.1 vwCl (zw G MS 51 am sm.1 sm.2 ++ (zw G (XS bx2) 105 a2 sx.1 sx.2 ++ [(qo, .inl (G.2.2.2.2.1, 1, .inr (.inl fJ2)))])) H1 → va_D A (zw G MS 51 am sm.1 sm.2 ++ (zw G (XS bx2) 105 a2 sx.1 sx.2 ++ [(qo, .inl (G.2.2.2.2.1, 1, .inr (.inl fJ2)))])) → va_S A s.heap H1 locs1 → lv_has ls1 8 [(0, .ref b), (1, .ref (a2 0)), (2, .ref (am 0)), (3, .ref qo), (4, .int iv)] → W p l e room_1 s m #[Value.ref b] below meth c H1 locs1 (cN + 10) (sN + 60) (lw_Z below #[Value.ref b] s) (F0 m 1511 ls1 [])) : W p l e room_1 s m #[Value.ref b] below meth c H locs cN sN (lw_Z below #[Value.ref b] s) (F0 m 1298 ls []) := by
  obtain ⟨hx, hb, hr, -, -, -, hX, hbl, hlocks, -⟩ := id C0
  have hbA : ¬ A b := by rw [hA]; exact Nat.not_le.mpr hbl
  refine W.widen (k := cN + 0) (n := sN + 0) (Nat.le_refl _) (Nat.le_refl _) ?_
  refine lv_aload_n hx hb dL_law_1298 rfl (lv_at hl 1 rfl) ?_
  refine lv_aload_n hx hb dL_law_1299 rfl (lv_at hl 0 rfl) ?_
  refine lv_iload hx hb dL_law_1300 (lv_at hl 4 rfl) ?_
  refine lv_iconst (v := 1) hx hb dL_law_1302 (by decide) ?_
  refine lv_iadd hx hb dL_law_1303 ?_
  refine l_sld (k := 1) hx hb hX hbl hbA hS hi (by decide) (l_lt hN rfl) hN2 dL_law_1304 ?_
  refine lv_aload_n hx hb dL_law_1305 rfl (lv_at hl 3 rfl) ?_
  have hP := swp_P hP
  have hD := swp_D hD
  refine a_callHi (wc := zw G (XS bx) 105 a g L ++ [(qo, .inl (G.2.2.2.2.1, 1, .inr (.inl fJ)))]) (wr := zw G MS 51 am gm Lm) (rest := []) li_L_220 C (wL_busiest l hst G H.size bx a fu g L (xs (i + 1)) qo fJ rx sx hxx hE) ⟨(Nat.le_of_ble_eq_true rfl), (Nat.le_of_ble_eq_true rfl), (show cN + 0 + 1 ≤ 601024 from l_le hcN rfl), (show sN + 0 + 6 ≤ 7293033 from l_le hsN rfl)⟩ hP hD hS rfl hl.1 rfl (Nat.le_of_ble_eq_true rfl) dL_law_1306 (fun k_ u_ H locs hwx_ hP hD hS => ?_)
  have hP := swp_P hP
  have hD := swp_D hD
  refine W.widen (k := cN + 1) (n := sN + 6) (Nat.le_refl _) (Nat.le_refl _) ?_
  have hP : va_P G.1 vwCl (zw G MS 51 am gm Lm ++ (zw G (XS bx) 105 a sx.1 sx.2 ++ [(qo, .inl (G.2.2.2.2.1, 1, .inr (.inl u_)))])) H := hP
  have hD : va_D A (zw G MS 51 am gm Lm ++ (zw G (XS bx) 105 a sx.1 sx.2 ++ [(qo, .inl (G.2.2.2.2.1, 1, .inr (.inl u_)))])) := hD
  refine lv_istore (lv' := [(5, .int k_), (0, .ref b), (1, .ref (a 0)), (2, .ref (am 0)), (3, .ref qo), (4, .int iv)]) hx hb dL_law_1309 hl (by decide) rfl (fun ls hl => ?_)
  refine lv_aload_n hx hb dL_law_1311 rfl (lv_at hl 3 rfl) ?_
  refine lv_aload_n hx hb dL_law_1312 rfl (lv_at hl 1 rfl) ?_
  refine lv_iload hx hb dL_law_1313 (lv_at hl 5 rfl) ?_
  refine lv_iconst (v := 1) hx hb dL_law_1315 (by decide) ?_
  refine lv_iadd hx hb dL_law_1316 ?_
  refine l_sld (k := 1) hx hb hX hbl hbA hS hi (by decide) (l_lt hN rfl) hN2 dL_law_1317 ?_
  refine a_callVi (wr := zw G (XS bx) 105 a sx.1 sx.2 ++ [(qo, .inl (G.2.2.2.2.1, 1, .inr (.inl u_)))]) (rest := []) li_L_222 C (rX12_busiest l G H.size am fu gm Lm (xs (i + 1)) rm sm hm) ⟨(Nat.le_of_ble_eq_true rfl), (Nat.le_of_ble_eq_true rfl), (show cN + 1 + 0 ≤ 601024 from l_le hcN rfl), (show sN + 6 + 0 ≤ 7293033 from l_le hsN rfl)⟩ hP hD hS 0 12 rfl (zat (by decide) ms_0) rfl hl.1 rfl (Nat.le_of_ble_eq_true rfl) dL_law_1318 (fun r_ um_ H locs hw_ hP hD hS => ?_)
  obtain rfl : rm = r_ := (show r_ = rm from hw_).symm
  refine W.widen (k := cN + 1) (n := sN + 6) (Nat.le_refl _) (Nat.le_refl _) ?_
  have hP : va_P G.1 vwCl (zw G MS 51 am sm.1 sm.2 ++ (zw G (XS bx) 105 a sx.1 sx.2 ++ [(qo, .inl (G.2.2.2.2.1, 1, .inr (.inl u_)))])) H := hP
  have hD : va_D A (zw G MS 51 am sm.1 sm.2 ++ (zw G (XS bx) 105 a sx.1 sx.2 ++ [(qo, .inl (G.2.2.2.2.1, 1, .inr (.inl u_)))])) := hD
  refine lv_istore (lv' := [(6, .int rm), (5, .int k_), (0, .ref b), (1, .ref (a 0)), (2, .ref (am 0)), (3, .ref qo), (4, .int iv)]) hx hb dL_law_1321 hl (by decide) rfl (fun ls hl => ?_)
  refine lv_goto (tgt := 1511) hx hb dL_law_1323 (by decide) ?_
  refine W.widen (k := cN + 10) (n := sN + 60) (by omega) (by omega) ?_
  exact kk bx a u_ H locs ls hP hD hS (lv_sub hl [2, 3, 4, 5, 6] rfl)
set_option maxHeartbeats 4000000 in
set_option maxRecDepth 100000 in
theorem law_32 {p : Program} {e : Env} {s : State} {m : MethodId} {below : List Frame} {meth : Method} {c : Code} {l : Launch} (hst : l.stackTraces = false) {b N : Nat} {xs : Nat → Int32} {G : kG} {A : Nat → Prop} (hN2 : N ≤ 3072) (C0 : lw_At p s m meth c b N xs) (hA : A = fun q : Nat => s.heap.size ≤ q) (C : kC G p s m c cL_law 8 RL A) {i : Nat} {iv : Int32} (hi : iv.toInt = (i : Int)) (hN : i + 6 ≤ N) {bx : Nat} {a am : Nat → Nat} {fu : Nat} {g gm : Nat → Nat → Int32} {L Lm : Nat → Nat → Int64} {qo : Nat} {fJ : Nat → Int64} {cN sN : Nat} (hcN : cN + 10 ≤ 601024) (hsN : sN + 60 ≤ 7293033) {rx : Int32} {sx : zS} {rm : Int32} {sm : zS} (hxx : fX11_idle_0 fu  g L = some (rx, sx)) (hm : fX12_idle fu  gm Lm = some (rm, sm)) {H : Heap} {locs : List Loc} {ls : Array Slot} (hP : va_P G.1 vwCl (zw G MS 51 am gm Lm ++ (zw G (XS bx) 105 a g L ++ [(qo, .inl (G.2.2.2.2.1, 1, .inr (.inl fJ)))])) H) (hD : va_D A (zw G MS 51 am gm Lm ++ (zw G (XS bx) 105 a g L ++ [(qo, .inl (G.2.2.2.2.1, 1, .inr (.inl fJ)))]))) (hS : va_S A s.heap H locs) (hl : lv_has ls 8 [(0, .ref b), (1, .ref (a 0)), (2, .ref (am 0)), (3, .ref qo), (4, .int iv)]) (kk : ∀ (bx2 : Nat) (a2 : Nat → Nat) (fJ2 : Nat → Int64) (H1 : Heap) (locs1 : List Loc) (ls1 : Array Slot), va_P G.1 vwCl (zw G MS 51 am sm.1 sm.2 ++ (zw G (XS bx2) 105 a2 sx.1 sx.2 ++ [(qo, .inl (G.2.2.2.2.1, 1, .inr (.inl fJ2)))])) H1 → va_D A (zw G MS 51 am sm.1 sm.2 ++ (zw G (XS bx2) 105 a2 sx.1 sx.2 ++ [(qo, .inl (G.2.2.2.2.1, 1, .inr (.inl fJ2)))])) → va_S A s.heap H1 locs1 → lv_has ls1 8 [(0, .ref b), (1, .ref (a2 0)), (2, .ref (am 0)), (3, .ref qo), (4, .int iv)] → W p l e room_1 s m #[Value.ref b] below meth c H1 locs1 (cN + 10) (sN + 60) (lw_Z below #[Value.ref b] s) (F0 m 1511 ls1 [])) : W p l e room_1 s m #[Value.ref b] below meth c H locs cN sN (lw_Z below #[Value.ref b] s) (F0 m 1326 ls []) := by
  obtain ⟨hx, hb, hr, -, -, -, hX, hbl, hlocks, -⟩ := id C0
  have hbA : ¬ A b := by rw [hA]; exact Nat.not_le.mpr hbl
  refine W.widen (k := cN + 0) (n := sN + 0) (Nat.le_refl _) (Nat.le_refl _) ?_
  refine lv_aload_n hx hb dL_law_1326 rfl (lv_at hl 1 rfl) ?_
  have hP := swp_P hP
  have hD := swp_D hD
  rw [List.append_assoc] at hP hD
  refine a_callVi (wr := [(qo, .inl (G.2.2.2.2.1, 1, .inr (.inl fJ)))] ++ zw G MS 51 am gm Lm) (rest := []) li_L_223 C (rX11_idle_0 l G H.size bx a fu g L  rx sx hxx) ⟨(Nat.le_of_ble_eq_true rfl), (Nat.le_of_ble_eq_true rfl), (show cN + 0 + 0 ≤ 601024 from l_le hcN rfl), (show sN + 0 + 0 ≤ 7293033 from l_le hsN rfl)⟩ hP hD hS 0 11 rfl (zat (by decide) xs_0) rfl hl.1 rfl (Nat.le_of_ble_eq_true rfl) dL_law_1327 (fun r_ u_ H locs hw_ hP hD hS => ?_)
  rw [← List.append_assoc] at hP hD
  have hP := swp_P hP
  have hD := swp_D hD
  obtain rfl : rx = r_ := (show r_ = rx from hw_).symm
  refine W.widen (k := cN + 0) (n := sN + 0) (Nat.le_refl _) (Nat.le_refl _) ?_
  have hP : va_P G.1 vwCl (zw G MS 51 am gm Lm ++ (zw G (XS bx) 105 a sx.1 sx.2 ++ [(qo, .inl (G.2.2.2.2.1, 1, .inr (.inl fJ)))])) H := hP
  have hD : va_D A (zw G MS 51 am gm Lm ++ (zw G (XS bx) 105 a sx.1 sx.2 ++ [(qo, .inl (G.2.2.2.2.1, 1, .inr (.inl fJ)))])) := hD
  refine lv_pop hx hb dL_law_1330 rfl ?_
  refine lv_aload_n hx hb dL_law_1331 rfl (lv_at hl 2 rfl) ?_
  refine a_callVi (wr := zw G (XS bx) 105 a sx.1 sx.2 ++ [(qo, .inl (G.2.2.2.2.1, 1, .inr (.inl fJ)))]) (rest := []) li_L_226 C (rX12_idle l G H.size am fu gm Lm  rm sm hm) ⟨(Nat.le_of_ble_eq_true rfl), (Nat.le_of_ble_eq_true rfl), (show cN + 0 + 0 ≤ 601024 from l_le hcN rfl), (show sN + 0 + 0 ≤ 7293033 from l_le hsN rfl)⟩ hP hD hS 0 12 rfl (zat (by decide) ms_0) rfl hl.1 rfl (Nat.le_of_ble_eq_true rfl) dL_law_1332 (fun r_ um_ H locs hw_ hP hD hS => ?_)
  obtain rfl : rm = r_ := (show r_ = rm from hw_).symm
  refine W.widen (k := cN + 0) (n := sN + 0) (Nat.le_refl _) (Nat.le_refl _) ?_
  have hP : va_P G.1 vwCl (zw G MS 51 am sm.1 sm.2 ++ (zw G (XS bx) 105 a sx.1 sx.2 ++ [(qo, .inl (G.2.2.2.2.1, 1, .inr (.inl fJ)))])) H := hP
  have hD : va_D A (zw G MS 51 am sm.1 sm.2 ++ (zw G (XS bx) 105 a sx.1 sx.2 ++ [(qo, .inl (G.2.2.2.2.1, 1, .inr (.inl fJ)))])) := hD
  refine lv_pop hx hb dL_law_1335 rfl ?_
  refine lv_goto (tgt := 1511) hx hb dL_law_1336 (by decide) ?_
  refine W.widen (k := cN + 10) (n := sN + 60) (by omega) (by omega) ?_
  exact kk bx a fJ H locs ls hP hD hS (lv_sub hl [0, 1, 2, 3, 4] rfl)
set_option maxHeartbeats 4000000 in
set_option maxRecDepth 100000 in
theorem law_33 {p : Program} {e : Env} {s : State} {m : MethodId} {below : List Frame} {meth : Method} {c : Code} {l : Launch} (hst : l.stackTraces = false) {b N : Nat} {xs : Nat → Int32} {G : kG} {A : Nat → Prop} (hN2 : N ≤ 3072) (C0 : lw_At p s m meth c b N xs) (hA : A = fun q : Nat => s.heap.size ≤ q) (C : kC G p s m c cL_law 8 RL A) {i : Nat} {iv : Int32} (hi : iv.toInt = (i : Int)) (hN : i + 6 ≤ N) {bx : Nat} {a am : Nat → Nat} {fu : Nat} {g gm : Nat → Nat → Int32} {L Lm : Nat → Nat → Int64} {qo : Nat} {fJ : Nat → Int64} {cN sN : Nat} (hcN : cN + 10 ≤ 601024) (hsN : sN + 60 ≤ 7293033) {rx : Except String Int32} {sx : zS} {rm : Int32} {sm : zS} (hxx : fX11_shift_0 fu (xs (i + 1)) (xs (i + 2)) g L = some (rx, sx)) (hE : ∀ E, rx = .error E → E = "java/util/NoSuchElementException") (hm : fX12_shift fu (xs (i + 1)) (xs (i + 2)) gm Lm = some (rm, sm)) {H : Heap} {locs : List Loc} {ls : Array Slot} (hP : va_P G.1 vwCl (zw G MS 51 am gm Lm ++ (zw G (XS bx) 105 a g L ++ [(qo, .inl (G.2.2.2.2.1, 1, .inr (.inl fJ)))])) H) (hD : va_D A (zw G MS 51 am gm Lm ++ (zw G (XS bx) 105 a g L ++ [(qo, .inl (G.2.2.2.2.1, 1, .inr (.inl fJ)))]))) (hS : va_S A s.heap H locs) (hl : lv_has ls 8 [(0, .ref b), (1, .ref (a 0)), (2, .ref (am 0)), (3, .ref qo), (4, .int iv)]) (kk : ∀ (bx2 : Nat) (a2 : Nat → Nat) (fJ2 : Nat → Int64) (H1 : Heap) (locs1 : List Loc) (ls1 : Array Slot), va_P G.1 vwCl (zw G MS 51 am sm.1 sm.2 ++ (zw G (XS bx2) 105 a2 sx.1 sx.2 ++ [(qo, .inl (G.2.2.2.2.1, 1, .inr (.inl fJ2)))])) H1 → va_D A (zw G MS 51 am sm.1 sm.2 ++ (zw G (XS bx2) 105 a2 sx.1 sx.2 ++ [(qo, .inl (G.2.2.2.2.1, 1, .inr (.inl fJ2)))])) → va_S A s.heap H1 locs1 → lv_has ls1 8 [(0, .ref b), (1, .ref (a2 0)), (2, .ref (am 0)), (3, .ref qo), (4, .int iv)] → W p l e room_1 s m #[Value.ref b] below meth c H1 locs1 (cN + 10) (sN + 60) (lw_Z below #[Value.ref b] s) (F0 m 1511 ls1 [])) : W p l e room_1 s m #[Value.ref b] below meth c H locs cN sN (lw_Z below #[Value.ref b] s) (F0 m 1339 ls []) := by
  obtain ⟨hx, hb, hr, -, -, -, hX, hbl, hlocks, -⟩ := id C0
  have hbA : ¬ A b := by rw [hA]; exact Nat.not_le.mpr hbl
  refine W.widen (k := cN + 0) (n := sN + 0) (Nat.le_refl _) (Nat.le_refl _) ?_
  refine lv_aload_n hx hb dL_law_1339 rfl (lv_at hl 1 rfl) ?_
  refine lv_aload_n hx hb dL_law_1340 rfl (lv_at hl 0 rfl) ?_
  refine lv_iload hx hb dL_law_1341 (lv_at hl 4 rfl) ?_
  refine lv_iconst (v := 1) hx hb dL_law_1343 (by decide) ?_
  refine lv_iadd hx hb dL_law_1344 ?_
  refine l_sld (k := 1) hx hb hX hbl hbA hS hi (by decide) (l_lt hN rfl) hN2 dL_law_1345 ?_
  refine lv_aload_n hx hb dL_law_1346 rfl (lv_at hl 0 rfl) ?_
  refine lv_iload hx hb dL_law_1347 (lv_at hl 4 rfl) ?_
  refine lv_iconst (v := 2) hx hb dL_law_1349 (by decide) ?_
  refine lv_iadd hx hb dL_law_1350 ?_
  refine l_sld (k := 2) hx hb hX hbl hbA hS hi (by decide) (l_lt hN rfl) hN2 dL_law_1351 ?_
  refine lv_aload_n hx hb dL_law_1352 rfl (lv_at hl 3 rfl) ?_
  have hP := swp_P hP
  have hD := swp_D hD
  refine a_callHi (wc := zw G (XS bx) 105 a g L ++ [(qo, .inl (G.2.2.2.2.1, 1, .inr (.inl fJ)))]) (wr := zw G MS 51 am gm Lm) (rest := []) li_L_227 C (wL_shift l hst G H.size bx a fu g L (xs (i + 1)) (xs (i + 2)) qo fJ rx sx hxx hE) ⟨(Nat.le_of_ble_eq_true rfl), (Nat.le_of_ble_eq_true rfl), (show cN + 0 + 2 ≤ 601024 from l_le hcN rfl), (show sN + 0 + 12 ≤ 7293033 from l_le hsN rfl)⟩ hP hD hS rfl hl.1 rfl (Nat.le_of_ble_eq_true rfl) dL_law_1353 (fun k_ u_ H locs hwx_ hP hD hS => ?_)
  have hP := swp_P hP
  have hD := swp_D hD
  refine W.widen (k := cN + 2) (n := sN + 12) (Nat.le_refl _) (Nat.le_refl _) ?_
  have hP : va_P G.1 vwCl (zw G MS 51 am gm Lm ++ (zw G (XS bx) 105 a sx.1 sx.2 ++ [(qo, .inl (G.2.2.2.2.1, 1, .inr (.inl u_)))])) H := hP
  have hD : va_D A (zw G MS 51 am gm Lm ++ (zw G (XS bx) 105 a sx.1 sx.2 ++ [(qo, .inl (G.2.2.2.2.1, 1, .inr (.inl u_)))])) := hD
  refine lv_istore (lv' := [(5, .int k_), (0, .ref b), (1, .ref (a 0)), (2, .ref (am 0)), (3, .ref qo), (4, .int iv)]) hx hb dL_law_1356 hl (by decide) rfl (fun ls hl => ?_)
  refine lv_aload_n hx hb dL_law_1358 rfl (lv_at hl 3 rfl) ?_
  refine lv_aload_n hx hb dL_law_1359 rfl (lv_at hl 1 rfl) ?_
  refine lv_iload hx hb dL_law_1360 (lv_at hl 5 rfl) ?_
  refine lv_iconst (v := 1) hx hb dL_law_1362 (by decide) ?_
  refine lv_iadd hx hb dL_law_1363 ?_
  refine l_sld (k := 1) hx hb hX hbl hbA hS hi (by decide) (l_lt hN rfl) hN2 dL_law_1364 ?_
  refine lv_aload_n hx hb dL_law_1365 rfl (lv_at hl 1 rfl) ?_
  refine lv_iload hx hb dL_law_1366 (lv_at hl 5 rfl) ?_
  refine lv_iconst (v := 2) hx hb dL_law_1368 (by decide) ?_
  refine lv_iadd hx hb dL_law_1369 ?_
  refine l_sld (k := 2) hx hb hX hbl hbA hS hi (by decide) (l_lt hN rfl) hN2 dL_law_1370 ?_
  refine a_callVi (wr := zw G (XS bx) 105 a sx.1 sx.2 ++ [(qo, .inl (G.2.2.2.2.1, 1, .inr (.inl u_)))]) (rest := []) li_L_229 C (rX12_shift l G H.size am fu gm Lm (xs (i + 1)) (xs (i + 2)) rm sm hm) ⟨(Nat.le_of_ble_eq_true rfl), (Nat.le_of_ble_eq_true rfl), (show cN + 2 + 0 ≤ 601024 from l_le hcN rfl), (show sN + 12 + 0 ≤ 7293033 from l_le hsN rfl)⟩ hP hD hS 0 12 rfl (zat (by decide) ms_0) rfl hl.1 rfl (Nat.le_of_ble_eq_true rfl) dL_law_1371 (fun r_ um_ H locs hw_ hP hD hS => ?_)
  obtain rfl : rm = r_ := (show r_ = rm from hw_).symm
  refine W.widen (k := cN + 2) (n := sN + 12) (Nat.le_refl _) (Nat.le_refl _) ?_
  have hP : va_P G.1 vwCl (zw G MS 51 am sm.1 sm.2 ++ (zw G (XS bx) 105 a sx.1 sx.2 ++ [(qo, .inl (G.2.2.2.2.1, 1, .inr (.inl u_)))])) H := hP
  have hD : va_D A (zw G MS 51 am sm.1 sm.2 ++ (zw G (XS bx) 105 a sx.1 sx.2 ++ [(qo, .inl (G.2.2.2.2.1, 1, .inr (.inl u_)))])) := hD
  refine lv_istore (lv' := [(6, .int rm), (5, .int k_), (0, .ref b), (1, .ref (a 0)), (2, .ref (am 0)), (3, .ref qo), (4, .int iv)]) hx hb dL_law_1374 hl (by decide) rfl (fun ls hl => ?_)
  refine lv_goto (tgt := 1511) hx hb dL_law_1376 (by decide) ?_
  refine W.widen (k := cN + 10) (n := sN + 60) (by omega) (by omega) ?_
  exact kk bx a u_ H locs ls hP hD hS (lv_sub hl [2, 3, 4, 5, 6] rfl)
set_option maxHeartbeats 4000000 in
set_option maxRecDepth 100000 in
theorem law_34 {p : Program} {e : Env} {s : State} {m : MethodId} {below : List Frame} {meth : Method} {c : Code} {l : Launch} (hst : l.stackTraces = false) {b N : Nat} {xs : Nat → Int32} {G : kG} {A : Nat → Prop} (hN2 : N ≤ 3072) (C0 : lw_At p s m meth c b N xs) (hA : A = fun q : Nat => s.heap.size ≤ q) (C : kC G p s m c cL_law 8 RL A) {i : Nat} {iv : Int32} (hi : iv.toInt = (i : Int)) (hN : i + 6 ≤ N) {bx : Nat} {a am : Nat → Nat} {fu : Nat} {g gm : Nat → Nat → Int32} {L Lm : Nat → Nat → Int64} {qo : Nat} {fJ : Nat → Int64} {cN sN : Nat} (hcN : cN + 10 ≤ 601024) (hsN : sN + 60 ≤ 7293033) {rx : Except String Int32} {sx : zS} {rm : Int32} {sm : zS} (hxx : fX11_harm_0 fu (xs (i + 1)) (xs (i + 2)) g L = some (rx, sx)) (hE : ∀ E, rx = .error E → E = "java/util/NoSuchElementException") (hm : fX12_harm fu (xs (i + 1)) (xs (i + 2)) gm Lm = some (rm, sm)) {H : Heap} {locs : List Loc} {ls : Array Slot} (hP : va_P G.1 vwCl (zw G MS 51 am gm Lm ++ (zw G (XS bx) 105 a g L ++ [(qo, .inl (G.2.2.2.2.1, 1, .inr (.inl fJ)))])) H) (hD : va_D A (zw G MS 51 am gm Lm ++ (zw G (XS bx) 105 a g L ++ [(qo, .inl (G.2.2.2.2.1, 1, .inr (.inl fJ)))]))) (hS : va_S A s.heap H locs) (hl : lv_has ls 8 [(0, .ref b), (1, .ref (a 0)), (2, .ref (am 0)), (3, .ref qo), (4, .int iv)]) (kk : ∀ (bx2 : Nat) (a2 : Nat → Nat) (fJ2 : Nat → Int64) (H1 : Heap) (locs1 : List Loc) (ls1 : Array Slot), va_P G.1 vwCl (zw G MS 51 am sm.1 sm.2 ++ (zw G (XS bx2) 105 a2 sx.1 sx.2 ++ [(qo, .inl (G.2.2.2.2.1, 1, .inr (.inl fJ2)))])) H1 → va_D A (zw G MS 51 am sm.1 sm.2 ++ (zw G (XS bx2) 105 a2 sx.1 sx.2 ++ [(qo, .inl (G.2.2.2.2.1, 1, .inr (.inl fJ2)))])) → va_S A s.heap H1 locs1 → lv_has ls1 8 [(0, .ref b), (1, .ref (a2 0)), (2, .ref (am 0)), (3, .ref qo), (4, .int iv)] → W p l e room_1 s m #[Value.ref b] below meth c H1 locs1 (cN + 10) (sN + 60) (lw_Z below #[Value.ref b] s) (F0 m 1511 ls1 [])) : W p l e room_1 s m #[Value.ref b] below meth c H locs cN sN (lw_Z below #[Value.ref b] s) (F0 m 1379 ls []) := by
  obtain ⟨hx, hb, hr, -, -, -, hX, hbl, hlocks, -⟩ := id C0
  have hbA : ¬ A b := by rw [hA]; exact Nat.not_le.mpr hbl
  refine W.widen (k := cN + 0) (n := sN + 0) (Nat.le_refl _) (Nat.le_refl _) ?_
  refine lv_aload_n hx hb dL_law_1379 rfl (lv_at hl 1 rfl) ?_
  refine lv_aload_n hx hb dL_law_1380 rfl (lv_at hl 0 rfl) ?_
  refine lv_iload hx hb dL_law_1381 (lv_at hl 4 rfl) ?_
  refine lv_iconst (v := 1) hx hb dL_law_1383 (by decide) ?_
  refine lv_iadd hx hb dL_law_1384 ?_
  refine l_sld (k := 1) hx hb hX hbl hbA hS hi (by decide) (l_lt hN rfl) hN2 dL_law_1385 ?_
  refine lv_aload_n hx hb dL_law_1386 rfl (lv_at hl 0 rfl) ?_
  refine lv_iload hx hb dL_law_1387 (lv_at hl 4 rfl) ?_
  refine lv_iconst (v := 2) hx hb dL_law_1389 (by decide) ?_
  refine lv_iadd hx hb dL_law_1390 ?_
  refine l_sld (k := 2) hx hb hX hbl hbA hS hi (by decide) (l_lt hN rfl) hN2 dL_law_1391 ?_
  refine lv_aload_n hx hb dL_law_1392 rfl (lv_at hl 3 rfl) ?_
  have hP := swp_P hP
  have hD := swp_D hD
  refine a_callHi (wc := zw G (XS bx) 105 a g L ++ [(qo, .inl (G.2.2.2.2.1, 1, .inr (.inl fJ)))]) (wr := zw G MS 51 am gm Lm) (rest := []) li_L_230 C (wL_harm l hst G H.size bx a fu g L (xs (i + 1)) (xs (i + 2)) qo fJ rx sx hxx hE) ⟨(Nat.le_of_ble_eq_true rfl), (Nat.le_of_ble_eq_true rfl), (show cN + 0 + 2 ≤ 601024 from l_le hcN rfl), (show sN + 0 + 12 ≤ 7293033 from l_le hsN rfl)⟩ hP hD hS rfl hl.1 rfl (Nat.le_of_ble_eq_true rfl) dL_law_1393 (fun k_ u_ H locs hwx_ hP hD hS => ?_)
  have hP := swp_P hP
  have hD := swp_D hD
  refine W.widen (k := cN + 2) (n := sN + 12) (Nat.le_refl _) (Nat.le_refl _) ?_
  have hP : va_P G.1 vwCl (zw G MS 51 am gm Lm ++ (zw G (XS bx) 105 a sx.1 sx.2 ++ [(qo, .inl (G.2.2.2.2.1, 1, .inr (.inl u_)))])) H := hP
  have hD : va_D A (zw G MS 51 am gm Lm ++ (zw G (XS bx) 105 a sx.1 sx.2 ++ [(qo, .inl (G.2.2.2.2.1, 1, .inr (.inl u_)))])) := hD
  refine lv_istore (lv' := [(5, .int k_), (0, .ref b), (1, .ref (a 0)), (2, .ref (am 0)), (3, .ref qo), (4, .int iv)]) hx hb dL_law_1396 hl (by decide) rfl (fun ls hl => ?_)
  refine lv_aload_n hx hb dL_law_1398 rfl (lv_at hl 3 rfl) ?_
  refine lv_aload_n hx hb dL_law_1399 rfl (lv_at hl 1 rfl) ?_
  refine lv_iload hx hb dL_law_1400 (lv_at hl 5 rfl) ?_
  refine lv_iconst (v := 1) hx hb dL_law_1402 (by decide) ?_
  refine lv_iadd hx hb dL_law_1403 ?_
  refine l_sld (k := 1) hx hb hX hbl hbA hS hi (by decide) (l_lt hN rfl) hN2 dL_law_1404 ?_
  refine lv_aload_n hx hb dL_law_1405 rfl (lv_at hl 1 rfl) ?_
  refine lv_iload hx hb dL_law_1406 (lv_at hl 5 rfl) ?_
  refine lv_iconst (v := 2) hx hb dL_law_1408 (by decide) ?_
  refine lv_iadd hx hb dL_law_1409 ?_
  refine l_sld (k := 2) hx hb hX hbl hbA hS hi (by decide) (l_lt hN rfl) hN2 dL_law_1410 ?_
  refine a_callVi (wr := zw G (XS bx) 105 a sx.1 sx.2 ++ [(qo, .inl (G.2.2.2.2.1, 1, .inr (.inl u_)))]) (rest := []) li_L_232 C (rX12_harm l G H.size am fu gm Lm (xs (i + 1)) (xs (i + 2)) rm sm hm) ⟨(Nat.le_of_ble_eq_true rfl), (Nat.le_of_ble_eq_true rfl), (show cN + 2 + 0 ≤ 601024 from l_le hcN rfl), (show sN + 12 + 0 ≤ 7293033 from l_le hsN rfl)⟩ hP hD hS 0 12 rfl (zat (by decide) ms_0) rfl hl.1 rfl (Nat.le_of_ble_eq_true rfl) dL_law_1411 (fun r_ um_ H locs hw_ hP hD hS => ?_)
  obtain rfl : rm = r_ := (show r_ = rm from hw_).symm
  refine W.widen (k := cN + 2) (n := sN + 12) (Nat.le_refl _) (Nat.le_refl _) ?_
  have hP : va_P G.1 vwCl (zw G MS 51 am sm.1 sm.2 ++ (zw G (XS bx) 105 a sx.1 sx.2 ++ [(qo, .inl (G.2.2.2.2.1, 1, .inr (.inl u_)))])) H := hP
  have hD : va_D A (zw G MS 51 am sm.1 sm.2 ++ (zw G (XS bx) 105 a sx.1 sx.2 ++ [(qo, .inl (G.2.2.2.2.1, 1, .inr (.inl u_)))])) := hD
  refine lv_istore (lv' := [(6, .int rm), (5, .int k_), (0, .ref b), (1, .ref (a 0)), (2, .ref (am 0)), (3, .ref qo), (4, .int iv)]) hx hb dL_law_1414 hl (by decide) rfl (fun ls hl => ?_)
  refine lv_goto (tgt := 1511) hx hb dL_law_1416 (by decide) ?_
  refine W.widen (k := cN + 10) (n := sN + 60) (by omega) (by omega) ?_
  exact kk bx a u_ H locs ls hP hD hS (lv_sub hl [2, 3, 4, 5, 6] rfl)
set_option maxHeartbeats 4000000 in
set_option maxRecDepth 100000 in
theorem law_35 {p : Program} {e : Env} {s : State} {m : MethodId} {below : List Frame} {meth : Method} {c : Code} {l : Launch} (hst : l.stackTraces = false) {b N : Nat} {xs : Nat → Int32} {G : kG} {A : Nat → Prop} (hN2 : N ≤ 3072) (C0 : lw_At p s m meth c b N xs) (hA : A = fun q : Nat => s.heap.size ≤ q) (C : kC G p s m c cL_law 8 RL A) {i : Nat} {iv : Int32} (hi : iv.toInt = (i : Int)) (hN : i + 6 ≤ N) {bx : Nat} {a am : Nat → Nat} {fu : Nat} {g gm : Nat → Nat → Int32} {L Lm : Nat → Nat → Int64} {qo : Nat} {fJ : Nat → Int64} {cN sN : Nat} (hcN : cN + 10 ≤ 601024) (hsN : sN + 60 ≤ 7293033) {rx : Except String Int32} {sx : zS} {rm : Int32} {sm : zS} (hxx : fX11_pair_0 fu (xs (i + 1)) g L = some (rx, sx)) (hE : ∀ E, rx = .error E → E = "java/util/NoSuchElementException") (hm : fX12_pair fu (xs (i + 1)) gm Lm = some (rm, sm)) {H : Heap} {locs : List Loc} {ls : Array Slot} (hP : va_P G.1 vwCl (zw G MS 51 am gm Lm ++ (zw G (XS bx) 105 a g L ++ [(qo, .inl (G.2.2.2.2.1, 1, .inr (.inl fJ)))])) H) (hD : va_D A (zw G MS 51 am gm Lm ++ (zw G (XS bx) 105 a g L ++ [(qo, .inl (G.2.2.2.2.1, 1, .inr (.inl fJ)))]))) (hS : va_S A s.heap H locs) (hl : lv_has ls 8 [(0, .ref b), (1, .ref (a 0)), (2, .ref (am 0)), (3, .ref qo), (4, .int iv)]) (kk : ∀ (bx2 : Nat) (a2 : Nat → Nat) (fJ2 : Nat → Int64) (H1 : Heap) (locs1 : List Loc) (ls1 : Array Slot), va_P G.1 vwCl (zw G MS 51 am sm.1 sm.2 ++ (zw G (XS bx2) 105 a2 sx.1 sx.2 ++ [(qo, .inl (G.2.2.2.2.1, 1, .inr (.inl fJ2)))])) H1 → va_D A (zw G MS 51 am sm.1 sm.2 ++ (zw G (XS bx2) 105 a2 sx.1 sx.2 ++ [(qo, .inl (G.2.2.2.2.1, 1, .inr (.inl fJ2)))])) → va_S A s.heap H1 locs1 → lv_has ls1 8 [(0, .ref b), (1, .ref (a2 0)), (2, .ref (am 0)), (3, .ref qo), (4, .int iv)] → W p l e room_1 s m #[Value.ref b] below meth c H1 locs1 (cN + 10) (sN + 60) (lw_Z below #[Value.ref b] s) (F0 m 1511 ls1 [])) : W p l e room_1 s m #[Value.ref b] below meth c H locs cN sN (lw_Z below #[Value.ref b] s) (F0 m 1419 ls []) := by
  obtain ⟨hx, hb, hr, -, -, -, hX, hbl, hlocks, -⟩ := id C0
  have hbA : ¬ A b := by rw [hA]; exact Nat.not_le.mpr hbl
  refine W.widen (k := cN + 0) (n := sN + 0) (Nat.le_refl _) (Nat.le_refl _) ?_
  refine lv_aload_n hx hb dL_law_1419 rfl (lv_at hl 1 rfl) ?_
  refine lv_aload_n hx hb dL_law_1420 rfl (lv_at hl 0 rfl) ?_
  refine lv_iload hx hb dL_law_1421 (lv_at hl 4 rfl) ?_
  refine lv_iconst (v := 1) hx hb dL_law_1423 (by decide) ?_
  refine lv_iadd hx hb dL_law_1424 ?_
  refine l_sld (k := 1) hx hb hX hbl hbA hS hi (by decide) (l_lt hN rfl) hN2 dL_law_1425 ?_
  refine lv_aload_n hx hb dL_law_1426 rfl (lv_at hl 3 rfl) ?_
  have hP := swp_P hP
  have hD := swp_D hD
  refine a_callHi (wc := zw G (XS bx) 105 a g L ++ [(qo, .inl (G.2.2.2.2.1, 1, .inr (.inl fJ)))]) (wr := zw G MS 51 am gm Lm) (rest := []) li_L_233 C (wL_pair l hst G H.size bx a fu g L (xs (i + 1)) qo fJ rx sx hxx hE) ⟨(Nat.le_of_ble_eq_true rfl), (Nat.le_of_ble_eq_true rfl), (show cN + 0 + 1 ≤ 601024 from l_le hcN rfl), (show sN + 0 + 6 ≤ 7293033 from l_le hsN rfl)⟩ hP hD hS rfl hl.1 rfl (Nat.le_of_ble_eq_true rfl) dL_law_1427 (fun k_ u_ H locs hwx_ hP hD hS => ?_)
  have hP := swp_P hP
  have hD := swp_D hD
  refine W.widen (k := cN + 1) (n := sN + 6) (Nat.le_refl _) (Nat.le_refl _) ?_
  have hP : va_P G.1 vwCl (zw G MS 51 am gm Lm ++ (zw G (XS bx) 105 a sx.1 sx.2 ++ [(qo, .inl (G.2.2.2.2.1, 1, .inr (.inl u_)))])) H := hP
  have hD : va_D A (zw G MS 51 am gm Lm ++ (zw G (XS bx) 105 a sx.1 sx.2 ++ [(qo, .inl (G.2.2.2.2.1, 1, .inr (.inl u_)))])) := hD
  refine lv_istore (lv' := [(5, .int k_), (0, .ref b), (1, .ref (a 0)), (2, .ref (am 0)), (3, .ref qo), (4, .int iv)]) hx hb dL_law_1430 hl (by decide) rfl (fun ls hl => ?_)
  refine lv_aload_n hx hb dL_law_1432 rfl (lv_at hl 3 rfl) ?_
  refine lv_aload_n hx hb dL_law_1433 rfl (lv_at hl 1 rfl) ?_
  refine lv_iload hx hb dL_law_1434 (lv_at hl 5 rfl) ?_
  refine lv_iconst (v := 1) hx hb dL_law_1436 (by decide) ?_
  refine lv_iadd hx hb dL_law_1437 ?_
  refine l_sld (k := 1) hx hb hX hbl hbA hS hi (by decide) (l_lt hN rfl) hN2 dL_law_1438 ?_
  refine a_callVi (wr := zw G (XS bx) 105 a sx.1 sx.2 ++ [(qo, .inl (G.2.2.2.2.1, 1, .inr (.inl u_)))]) (rest := []) li_L_235 C (rX12_pair l G H.size am fu gm Lm (xs (i + 1)) rm sm hm) ⟨(Nat.le_of_ble_eq_true rfl), (Nat.le_of_ble_eq_true rfl), (show cN + 1 + 0 ≤ 601024 from l_le hcN rfl), (show sN + 6 + 0 ≤ 7293033 from l_le hsN rfl)⟩ hP hD hS 0 12 rfl (zat (by decide) ms_0) rfl hl.1 rfl (Nat.le_of_ble_eq_true rfl) dL_law_1439 (fun r_ um_ H locs hw_ hP hD hS => ?_)
  obtain rfl : rm = r_ := (show r_ = rm from hw_).symm
  refine W.widen (k := cN + 1) (n := sN + 6) (Nat.le_refl _) (Nat.le_refl _) ?_
  have hP : va_P G.1 vwCl (zw G MS 51 am sm.1 sm.2 ++ (zw G (XS bx) 105 a sx.1 sx.2 ++ [(qo, .inl (G.2.2.2.2.1, 1, .inr (.inl u_)))])) H := hP
  have hD : va_D A (zw G MS 51 am sm.1 sm.2 ++ (zw G (XS bx) 105 a sx.1 sx.2 ++ [(qo, .inl (G.2.2.2.2.1, 1, .inr (.inl u_)))])) := hD
  refine lv_istore (lv' := [(6, .int rm), (5, .int k_), (0, .ref b), (1, .ref (a 0)), (2, .ref (am 0)), (3, .ref qo), (4, .int iv)]) hx hb dL_law_1442 hl (by decide) rfl (fun ls hl => ?_)
  refine lv_goto (tgt := 1511) hx hb dL_law_1444 (by decide) ?_
  refine W.widen (k := cN + 10) (n := sN + 60) (by omega) (by omega) ?_
  exact kk bx a u_ H locs ls hP hD hS (lv_sub hl [2, 3, 4, 5, 6] rfl)
set_option maxHeartbeats 4000000 in
set_option maxRecDepth 100000 in
theorem law_36 {p : Program} {e : Env} {s : State} {m : MethodId} {below : List Frame} {meth : Method} {c : Code} {l : Launch} (hst : l.stackTraces = false) {b N : Nat} {xs : Nat → Int32} {G : kG} {A : Nat → Prop} (hN2 : N ≤ 3072) (C0 : lw_At p s m meth c b N xs) (hA : A = fun q : Nat => s.heap.size ≤ q) (C : kC G p s m c cL_law 8 RL A) {i : Nat} {iv : Int32} (hi : iv.toInt = (i : Int)) (hN : i + 6 ≤ N) {bx : Nat} {a am : Nat → Nat} {fu : Nat} {g gm : Nat → Nat → Int32} {L Lm : Nat → Nat → Int64} {qo : Nat} {fJ : Nat → Int64} {cN sN : Nat} (hcN : cN + 10 ≤ 601024) (hsN : sN + 60 ≤ 7293033) {rx : Except String Int32} {sx : zS} {rm : Int32} {sm : zS} (hxx : fX11_pause_0 fu (xs (i + 1)) (xs (i + 2)) g L = some (rx, sx)) (hE : ∀ E, rx = .error E → E = "java/util/NoSuchElementException" ∨ E = "java/lang/IllegalArgumentException") (hm : fX12_pause fu (xs (i + 1)) (xs (i + 2)) gm Lm = some (rm, sm)) {H : Heap} {locs : List Loc} {ls : Array Slot} (hP : va_P G.1 vwCl (zw G MS 51 am gm Lm ++ (zw G (XS bx) 105 a g L ++ [(qo, .inl (G.2.2.2.2.1, 1, .inr (.inl fJ)))])) H) (hD : va_D A (zw G MS 51 am gm Lm ++ (zw G (XS bx) 105 a g L ++ [(qo, .inl (G.2.2.2.2.1, 1, .inr (.inl fJ)))]))) (hS : va_S A s.heap H locs) (hl : lv_has ls 8 [(0, .ref b), (1, .ref (a 0)), (2, .ref (am 0)), (3, .ref qo), (4, .int iv)]) (kk : ∀ (bx2 : Nat) (a2 : Nat → Nat) (fJ2 : Nat → Int64) (H1 : Heap) (locs1 : List Loc) (ls1 : Array Slot), va_P G.1 vwCl (zw G MS 51 am sm.1 sm.2 ++ (zw G (XS bx2) 105 a2 sx.1 sx.2 ++ [(qo, .inl (G.2.2.2.2.1, 1, .inr (.inl fJ2)))])) H1 → va_D A (zw G MS 51 am sm.1 sm.2 ++ (zw G (XS bx2) 105 a2 sx.1 sx.2 ++ [(qo, .inl (G.2.2.2.2.1, 1, .inr (.inl fJ2)))])) → va_S A s.heap H1 locs1 → lv_has ls1 8 [(0, .ref b), (1, .ref (a2 0)), (2, .ref (am 0)), (3, .ref qo), (4, .int iv)] → W p l e room_1 s m #[Value.ref b] below meth c H1 locs1 (cN + 10) (sN + 60) (lw_Z below #[Value.ref b] s) (F0 m 1511 ls1 [])) : W p l e room_1 s m #[Value.ref b] below meth c H locs cN sN (lw_Z below #[Value.ref b] s) (F0 m 1447 ls []) := by
  obtain ⟨hx, hb, hr, -, -, -, hX, hbl, hlocks, -⟩ := id C0
  have hbA : ¬ A b := by rw [hA]; exact Nat.not_le.mpr hbl
  refine W.widen (k := cN + 0) (n := sN + 0) (Nat.le_refl _) (Nat.le_refl _) ?_
  refine lv_aload_n hx hb dL_law_1447 rfl (lv_at hl 1 rfl) ?_
  refine lv_aload_n hx hb dL_law_1448 rfl (lv_at hl 0 rfl) ?_
  refine lv_iload hx hb dL_law_1449 (lv_at hl 4 rfl) ?_
  refine lv_iconst (v := 1) hx hb dL_law_1451 (by decide) ?_
  refine lv_iadd hx hb dL_law_1452 ?_
  refine l_sld (k := 1) hx hb hX hbl hbA hS hi (by decide) (l_lt hN rfl) hN2 dL_law_1453 ?_
  refine lv_aload_n hx hb dL_law_1454 rfl (lv_at hl 0 rfl) ?_
  refine lv_iload hx hb dL_law_1455 (lv_at hl 4 rfl) ?_
  refine lv_iconst (v := 2) hx hb dL_law_1457 (by decide) ?_
  refine lv_iadd hx hb dL_law_1458 ?_
  refine l_sld (k := 2) hx hb hX hbl hbA hS hi (by decide) (l_lt hN rfl) hN2 dL_law_1459 ?_
  refine lv_aload_n hx hb dL_law_1460 rfl (lv_at hl 3 rfl) ?_
  have hP := swp_P hP
  have hD := swp_D hD
  refine a_callHi (wc := zw G (XS bx) 105 a g L ++ [(qo, .inl (G.2.2.2.2.1, 1, .inr (.inl fJ)))]) (wr := zw G MS 51 am gm Lm) (rest := []) li_L_236 C (wL_pause l hst G H.size bx a fu g L (xs (i + 1)) (xs (i + 2)) qo fJ rx sx hxx hE) ⟨(Nat.le_of_ble_eq_true rfl), (Nat.le_of_ble_eq_true rfl), (show cN + 0 + 2 ≤ 601024 from l_le hcN rfl), (show sN + 0 + 12 ≤ 7293033 from l_le hsN rfl)⟩ hP hD hS rfl hl.1 rfl (Nat.le_of_ble_eq_true rfl) dL_law_1461 (fun k_ u_ H locs hwx_ hP hD hS => ?_)
  have hP := swp_P hP
  have hD := swp_D hD
  refine W.widen (k := cN + 2) (n := sN + 12) (Nat.le_refl _) (Nat.le_refl _) ?_
  have hP : va_P G.1 vwCl (zw G MS 51 am gm Lm ++ (zw G (XS bx) 105 a sx.1 sx.2 ++ [(qo, .inl (G.2.2.2.2.1, 1, .inr (.inl u_)))])) H := hP
  have hD : va_D A (zw G MS 51 am gm Lm ++ (zw G (XS bx) 105 a sx.1 sx.2 ++ [(qo, .inl (G.2.2.2.2.1, 1, .inr (.inl u_)))])) := hD
  refine lv_istore (lv' := [(5, .int k_), (0, .ref b), (1, .ref (a 0)), (2, .ref (am 0)), (3, .ref qo), (4, .int iv)]) hx hb dL_law_1464 hl (by decide) rfl (fun ls hl => ?_)
  refine lv_aload_n hx hb dL_law_1466 rfl (lv_at hl 3 rfl) ?_
  refine lv_aload_n hx hb dL_law_1467 rfl (lv_at hl 1 rfl) ?_
  refine lv_iload hx hb dL_law_1468 (lv_at hl 5 rfl) ?_
  refine lv_iconst (v := 1) hx hb dL_law_1470 (by decide) ?_
  refine lv_iadd hx hb dL_law_1471 ?_
  refine l_sld (k := 1) hx hb hX hbl hbA hS hi (by decide) (l_lt hN rfl) hN2 dL_law_1472 ?_
  refine lv_aload_n hx hb dL_law_1473 rfl (lv_at hl 1 rfl) ?_
  refine lv_iload hx hb dL_law_1474 (lv_at hl 5 rfl) ?_
  refine lv_iconst (v := 2) hx hb dL_law_1476 (by decide) ?_
  refine lv_iadd hx hb dL_law_1477 ?_
  refine l_sld (k := 2) hx hb hX hbl hbA hS hi (by decide) (l_lt hN rfl) hN2 dL_law_1478 ?_
  refine a_callVi (wr := zw G (XS bx) 105 a sx.1 sx.2 ++ [(qo, .inl (G.2.2.2.2.1, 1, .inr (.inl u_)))]) (rest := []) li_L_238 C (rX12_pause l G H.size am fu gm Lm (xs (i + 1)) (xs (i + 2)) rm sm hm) ⟨(Nat.le_of_ble_eq_true rfl), (Nat.le_of_ble_eq_true rfl), (show cN + 2 + 0 ≤ 601024 from l_le hcN rfl), (show sN + 12 + 0 ≤ 7293033 from l_le hsN rfl)⟩ hP hD hS 0 12 rfl (zat (by decide) ms_0) rfl hl.1 rfl (Nat.le_of_ble_eq_true rfl) dL_law_1479 (fun r_ um_ H locs hw_ hP hD hS => ?_)
  obtain rfl : rm = r_ := (show r_ = rm from hw_).symm
  refine W.widen (k := cN + 2) (n := sN + 12) (Nat.le_refl _) (Nat.le_refl _) ?_
  have hP : va_P G.1 vwCl (zw G MS 51 am sm.1 sm.2 ++ (zw G (XS bx) 105 a sx.1 sx.2 ++ [(qo, .inl (G.2.2.2.2.1, 1, .inr (.inl u_)))])) H := hP
  have hD : va_D A (zw G MS 51 am sm.1 sm.2 ++ (zw G (XS bx) 105 a sx.1 sx.2 ++ [(qo, .inl (G.2.2.2.2.1, 1, .inr (.inl u_)))])) := hD
  refine lv_istore (lv' := [(6, .int rm), (5, .int k_), (0, .ref b), (1, .ref (a 0)), (2, .ref (am 0)), (3, .ref qo), (4, .int iv)]) hx hb dL_law_1482 hl (by decide) rfl (fun ls hl => ?_)
  refine lv_goto (tgt := 1511) hx hb dL_law_1484 (by decide) ?_
  refine W.widen (k := cN + 10) (n := sN + 60) (by omega) (by omega) ?_
  exact kk bx a u_ H locs ls hP hD hS (lv_sub hl [2, 3, 4, 5, 6] rfl)
set_option maxHeartbeats 4000000 in
set_option maxRecDepth 100000 in
theorem law_37 {p : Program} {e : Env} {s : State} {m : MethodId} {below : List Frame} {meth : Method} {c : Code} {l : Launch} (hst : l.stackTraces = false) {b N : Nat} {xs : Nat → Int32} {G : kG} {A : Nat → Prop} (hN2 : N ≤ 3072) (C0 : lw_At p s m meth c b N xs) (hA : A = fun q : Nat => s.heap.size ≤ q) (C : kC G p s m c cL_law 8 RL A) {i : Nat} {iv : Int32} (hi : iv.toInt = (i : Int)) (hN : i + 6 ≤ N) {bx : Nat} {a am : Nat → Nat} {fu : Nat} {g gm : Nat → Nat → Int32} {L Lm : Nat → Nat → Int64} {qo : Nat} {fJ : Nat → Int64} {cN sN : Nat} (hcN : cN + 10 ≤ 601024) (hsN : sN + 60 ≤ 7293033) {rx : Unit} {sx : zS} {rm : Unit} {sm : zS} (hxx : fX11_image_0 fu  g L = some (rx, sx)) (hm : fX12_image fu  gm Lm = some (rm, sm)) {H : Heap} {locs : List Loc} {ls : Array Slot} (hP : va_P G.1 vwCl (zw G MS 51 am gm Lm ++ (zw G (XS bx) 105 a g L ++ [(qo, .inl (G.2.2.2.2.1, 1, .inr (.inl fJ)))])) H) (hD : va_D A (zw G MS 51 am gm Lm ++ (zw G (XS bx) 105 a g L ++ [(qo, .inl (G.2.2.2.2.1, 1, .inr (.inl fJ)))]))) (hS : va_S A s.heap H locs) (hl : lv_has ls 8 [(0, .ref b), (1, .ref (a 0)), (2, .ref (am 0)), (3, .ref qo), (4, .int iv)]) (kk : ∀ (bx2 : Nat) (a2 : Nat → Nat) (fJ2 : Nat → Int64) (H1 : Heap) (locs1 : List Loc) (ls1 : Array Slot), va_P G.1 vwCl (zw G MS 51 am sm.1 sm.2 ++ (zw G (XS bx2) 105 a2 sx.1 sx.2 ++ [(qo, .inl (G.2.2.2.2.1, 1, .inr (.inl fJ2)))])) H1 → va_D A (zw G MS 51 am sm.1 sm.2 ++ (zw G (XS bx2) 105 a2 sx.1 sx.2 ++ [(qo, .inl (G.2.2.2.2.1, 1, .inr (.inl fJ2)))])) → va_S A s.heap H1 locs1 → lv_has ls1 8 [(0, .ref b), (1, .ref (a2 0)), (2, .ref (am 0)), (3, .ref qo), (4, .int iv)] → W p l e room_1 s m #[Value.ref b] below meth c H1 locs1 (cN + 10) (sN + 60) (lw_Z below #[Value.ref b] s) (F0 m 1511 ls1 [])) : W p l e room_1 s m #[Value.ref b] below meth c H locs cN sN (lw_Z below #[Value.ref b] s) (F0 m 1487 ls []) := by
  obtain ⟨hx, hb, hr, -, -, -, hX, hbl, hlocks, -⟩ := id C0
  have hbA : ¬ A b := by rw [hA]; exact Nat.not_le.mpr hbl
  refine W.widen (k := cN + 0) (n := sN + 0) (Nat.le_refl _) (Nat.le_refl _) ?_
  refine lv_aload_n hx hb dL_law_1487 rfl (lv_at hl 1 rfl) ?_
  have hP := swp_P hP
  have hD := swp_D hD
  rw [List.append_assoc] at hP hD
  refine a_callVv (wr := [(qo, .inl (G.2.2.2.2.1, 1, .inr (.inl fJ)))] ++ zw G MS 51 am gm Lm) (rest := []) li_L_239 C (rX11_image_0 l G H.size bx a fu g L  rx sx hxx) ⟨(Nat.le_of_ble_eq_true rfl), (Nat.le_of_ble_eq_true rfl), (show cN + 0 + 0 ≤ 601024 from l_le hcN rfl), (show sN + 0 + 0 ≤ 7293033 from l_le hsN rfl)⟩ hP hD hS 0 11 rfl (zat (by decide) xs_0) rfl hl.1 rfl (Nat.le_of_ble_eq_true rfl) dL_law_1488 (fun u_ H locs hw_ hP hD hS => ?_)
  rw [← List.append_assoc] at hP hD
  have hP := swp_P hP
  have hD := swp_D hD
  refine W.widen (k := cN + 0) (n := sN + 0) (Nat.le_refl _) (Nat.le_refl _) ?_
  have hP : va_P G.1 vwCl (zw G MS 51 am gm Lm ++ (zw G (XS bx) 105 a sx.1 sx.2 ++ [(qo, .inl (G.2.2.2.2.1, 1, .inr (.inl fJ)))])) H := hP
  have hD : va_D A (zw G MS 51 am gm Lm ++ (zw G (XS bx) 105 a sx.1 sx.2 ++ [(qo, .inl (G.2.2.2.2.1, 1, .inr (.inl fJ)))])) := hD
  refine lv_aload_n hx hb dL_law_1491 rfl (lv_at hl 2 rfl) ?_
  refine a_callVv (wr := zw G (XS bx) 105 a sx.1 sx.2 ++ [(qo, .inl (G.2.2.2.2.1, 1, .inr (.inl fJ)))]) (rest := []) li_L_242 C (rX12_image l G H.size am fu gm Lm  rm sm hm) ⟨(Nat.le_of_ble_eq_true rfl), (Nat.le_of_ble_eq_true rfl), (show cN + 0 + 0 ≤ 601024 from l_le hcN rfl), (show sN + 0 + 0 ≤ 7293033 from l_le hsN rfl)⟩ hP hD hS 0 12 rfl (zat (by decide) ms_0) rfl hl.1 rfl (Nat.le_of_ble_eq_true rfl) dL_law_1492 (fun um_ H locs hw_ hP hD hS => ?_)
  refine W.widen (k := cN + 0) (n := sN + 0) (Nat.le_refl _) (Nat.le_refl _) ?_
  have hP : va_P G.1 vwCl (zw G MS 51 am sm.1 sm.2 ++ (zw G (XS bx) 105 a sx.1 sx.2 ++ [(qo, .inl (G.2.2.2.2.1, 1, .inr (.inl fJ)))])) H := hP
  have hD : va_D A (zw G MS 51 am sm.1 sm.2 ++ (zw G (XS bx) 105 a sx.1 sx.2 ++ [(qo, .inl (G.2.2.2.2.1, 1, .inr (.inl fJ)))])) := hD
  refine lv_goto (tgt := 1511) hx hb dL_law_1495 (by decide) ?_
  refine W.widen (k := cN + 10) (n := sN + 60) (by omega) (by omega) ?_
  exact kk bx a fJ H locs ls hP hD hS (lv_sub hl [0, 1, 2, 3, 4] rfl)
set_option maxHeartbeats 4000000 in
set_option maxRecDepth 100000 in
theorem law_38 {p : Program} {e : Env} {s : State} {m : MethodId} {below : List Frame} {meth : Method} {c : Code} {l : Launch} (hst : l.stackTraces = false) {b N : Nat} {xs : Nat → Int32} {G : kG} {A : Nat → Prop} (hN2 : N ≤ 3072) (C0 : lw_At p s m meth c b N xs) (hA : A = fun q : Nat => s.heap.size ≤ q) (C : kC G p s m c cL_law 8 RL A) {i : Nat} {iv : Int32} (hi : iv.toInt = (i : Int)) (hN : i + 6 ≤ N) {bx : Nat} {a am : Nat → Nat} {fu : Nat} {g gm : Nat → Nat → Int32} {L Lm : Nat → Nat → Int64} {qo : Nat} {fJ : Nat → Int64} {cN sN : Nat} (hcN : cN + 10 ≤ 601024) (hsN : sN + 60 ≤ 7293033) {rx : Int32} {sx : zS} {rm : Int32} {sm : zS} (hxx : fX11_restore_0 fu  g L = some (rx, sx)) (hm : fX12_restore fu  gm Lm = some (rm, sm)) {H : Heap} {locs : List Loc} {ls : Array Slot} (hP : va_P G.1 vwCl (zw G MS 51 am gm Lm ++ (zw G (XS bx) 105 a g L ++ [(qo, .inl (G.2.2.2.2.1, 1, .inr (.inl fJ)))])) H) (hD : va_D A (zw G MS 51 am gm Lm ++ (zw G (XS bx) 105 a g L ++ [(qo, .inl (G.2.2.2.2.1, 1, .inr (.inl fJ)))]))) (hS : va_S A s.heap H locs) (hl : lv_has ls 8 [(0, .ref b), (1, .ref (a 0)), (2, .ref (am 0)), (3, .ref qo), (4, .int iv)]) (kk : ∀ (bx2 : Nat) (a2 : Nat → Nat) (fJ2 : Nat → Int64) (H1 : Heap) (locs1 : List Loc) (ls1 : Array Slot), va_P G.1 vwCl (zw G MS 51 am sm.1 sm.2 ++ (zw G (XS bx2) 105 a2 sx.1 sx.2 ++ [(qo, .inl (G.2.2.2.2.1, 1, .inr (.inl fJ2)))])) H1 → va_D A (zw G MS 51 am sm.1 sm.2 ++ (zw G (XS bx2) 105 a2 sx.1 sx.2 ++ [(qo, .inl (G.2.2.2.2.1, 1, .inr (.inl fJ2)))])) → va_S A s.heap H1 locs1 → lv_has ls1 8 [(0, .ref b), (1, .ref (a2 0)), (2, .ref (am 0)), (3, .ref qo), (4, .int iv)] → W p l e room_1 s m #[Value.ref b] below meth c H1 locs1 (cN + 10) (sN + 60) (lw_Z below #[Value.ref b] s) (F0 m 1511 ls1 [])) : W p l e room_1 s m #[Value.ref b] below meth c H locs cN sN (lw_Z below #[Value.ref b] s) (F0 m 1498 ls []) := by
  obtain ⟨hx, hb, hr, -, -, -, hX, hbl, hlocks, -⟩ := id C0
  have hbA : ¬ A b := by rw [hA]; exact Nat.not_le.mpr hbl
  refine W.widen (k := cN + 0) (n := sN + 0) (Nat.le_refl _) (Nat.le_refl _) ?_
  refine lv_aload_n hx hb dL_law_1498 rfl (lv_at hl 1 rfl) ?_
  have hP := swp_P hP
  have hD := swp_D hD
  rw [List.append_assoc] at hP hD
  refine a_callVi (wr := [(qo, .inl (G.2.2.2.2.1, 1, .inr (.inl fJ)))] ++ zw G MS 51 am gm Lm) (rest := []) li_L_243 C (rX11_restore_0 l G H.size bx a fu g L  rx sx hxx) ⟨(Nat.le_of_ble_eq_true rfl), (Nat.le_of_ble_eq_true rfl), (show cN + 0 + 0 ≤ 601024 from l_le hcN rfl), (show sN + 0 + 0 ≤ 7293033 from l_le hsN rfl)⟩ hP hD hS 0 11 rfl (zat (by decide) xs_0) rfl hl.1 rfl (Nat.le_of_ble_eq_true rfl) dL_law_1499 (fun r_ u_ H locs hw_ hP hD hS => ?_)
  rw [← List.append_assoc] at hP hD
  have hP := swp_P hP
  have hD := swp_D hD
  obtain rfl : rx = r_ := (show r_ = rx from hw_).symm
  refine W.widen (k := cN + 0) (n := sN + 0) (Nat.le_refl _) (Nat.le_refl _) ?_
  have hP : va_P G.1 vwCl (zw G MS 51 am gm Lm ++ (zw G (XS bx) 105 a sx.1 sx.2 ++ [(qo, .inl (G.2.2.2.2.1, 1, .inr (.inl fJ)))])) H := hP
  have hD : va_D A (zw G MS 51 am gm Lm ++ (zw G (XS bx) 105 a sx.1 sx.2 ++ [(qo, .inl (G.2.2.2.2.1, 1, .inr (.inl fJ)))])) := hD
  refine lv_pop hx hb dL_law_1502 rfl ?_
  refine lv_aload_n hx hb dL_law_1503 rfl (lv_at hl 2 rfl) ?_
  refine a_callVi (wr := zw G (XS bx) 105 a sx.1 sx.2 ++ [(qo, .inl (G.2.2.2.2.1, 1, .inr (.inl fJ)))]) (rest := []) li_L_247 C (rX12_restore l G H.size am fu gm Lm  rm sm hm) ⟨(Nat.le_of_ble_eq_true rfl), (Nat.le_of_ble_eq_true rfl), (show cN + 0 + 0 ≤ 601024 from l_le hcN rfl), (show sN + 0 + 0 ≤ 7293033 from l_le hsN rfl)⟩ hP hD hS 0 12 rfl (zat (by decide) ms_0) rfl hl.1 rfl (Nat.le_of_ble_eq_true rfl) dL_law_1504 (fun r_ um_ H locs hw_ hP hD hS => ?_)
  obtain rfl : rm = r_ := (show r_ = rm from hw_).symm
  refine W.widen (k := cN + 0) (n := sN + 0) (Nat.le_refl _) (Nat.le_refl _) ?_
  have hP : va_P G.1 vwCl (zw G MS 51 am sm.1 sm.2 ++ (zw G (XS bx) 105 a sx.1 sx.2 ++ [(qo, .inl (G.2.2.2.2.1, 1, .inr (.inl fJ)))])) H := hP
  have hD : va_D A (zw G MS 51 am sm.1 sm.2 ++ (zw G (XS bx) 105 a sx.1 sx.2 ++ [(qo, .inl (G.2.2.2.2.1, 1, .inr (.inl fJ)))])) := hD
  refine lv_pop hx hb dL_law_1507 rfl ?_
  refine lv_goto (tgt := 1511) hx hb dL_law_1508 (by decide) ?_
  refine W.widen (k := cN + 10) (n := sN + 60) (by omega) (by omega) ?_
  exact kk bx a fJ H locs ls hP hD hS (lv_sub hl [0, 1, 2, 3, 4] rfl)
