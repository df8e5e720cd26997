theorem dL_law_23 : decode cL_law 23 = .ok (.iload 4, 2) := by decide +kernel
theorem dL_law_25 : decode cL_law 25 = .ok (.aload_n 0, 1) := by decide +kernel
theorem dL_law_26 : decode cL_law 26 = .ok (.arraylength, 1) := by decide +kernel
theorem dL_law_27 : decode cL_law 27 = .ok (.bipush 6, 2) := by decide +kernel
theorem dL_law_29 : decode cL_law 29 = .ok (.isub, 1) := by decide +kernel
theorem dL_law_30 : decode cL_law 30 = .ok (.if_icmp .gt 1487, 3) := by decide +kernel
theorem dL_law_1511 : decode cL_law 1511 = .ok (.iinc 4 6, 3) := by decide +kernel
theorem dL_law_1514 : decode cL_law 1514 = .ok (.goto (-1491), 3) := by decide +kernel
theorem dL_law_33 : decode cL_law 33 = .ok (.aload_n 0, 1) := by decide +kernel
theorem dL_law_34 : decode cL_law 34 = .ok (.iload 4, 2) := by decide +kernel
theorem dL_law_36 : decode cL_law 36 = .ok (.iaload, 1) := by decide +kernel
theorem dL_law_37 : decode cL_law 37 = .ok (.bipush 63, 2) := by decide +kernel
theorem dL_law_39 : decode cL_law 39 = .ok (.iand, 1) := by decide +kernel
theorem dL_law_1517 : decode cL_law 1517 = .ok (.iconst 1, 1) := by decide +kernel
theorem dL_law_1518 : decode cL_law 1518 = .ok (.ireturn, 1) := by decide +kernel
theorem dL_law_40 : decode cL_law 40 = .ok (.tableswitch 1471 0 38 #[172, 245, 273, 286, 314, 354, 394, 434, 486, 511, 524, 604, 644, 672, 724, 752, 804, 844, 872, 912, 952, 965, 993, 1006, 1034, 1074, 1085, 1113, 1126, 1190, 1230, 1258, 1286, 1299, 1339, 1379, 1407, 1447, 1458], 172) := by decide +kernel
set_option maxHeartbeats 8000000 in
set_option maxRecDepth 100000 in
theorem law_loop {p : Program} {e : Env} {s : State} {m : MethodId} {below : List Frame} {meth : Method} {c : Code} {l : Launch} (hst : l.stackTraces = false) {b N : Nat} {xs : Nat → Int32} {G : kG} {A : Nat → Prop} (hN2 : N ≤ 3072) (C0 : lw_At p s m meth c b N xs) (hA : A = fun q : Nat => s.heap.size ≤ q) (C : kC G p s m c cL_law 8 RL A) {am : Nat → Nat} {qo : Nat} {fu : Nat} (hfu : 1180591620717411303424 ≤ fu) : ∀ (n i : Nat) (iv : Int32) (bx : Nat) (a : Nat → Nat) (g gm : Nat → Nat → Int32) (L Lm : Nat → Nat → Int64) (fJ : Nat → Int64) (cN sN : Nat) (H : Heap) (locs : List Loc) (ls : Array Slot), N ≤ i + n → i ≤ N → iv.toInt = (i : Int) → cN + 10 * n + 10 ≤ 601024 → sN + 60 * n + 60 ≤ 7293033 → CS g gm → va_P G.1 vwCl (zw G MS 51 am gm Lm ++ (zw G (XS bx) 105 a g L ++ [(qo, .inl (G.2.2.2.2.1, 1, .inr (.inl fJ)))])) H → va_D A (zw G MS 51 am gm Lm ++ (zw G (XS bx) 105 a g L ++ [(qo, .inl (G.2.2.2.2.1, 1, .inr (.inl fJ)))])) → va_S A s.heap H locs → lv_has ls 8 [(0, .ref b), (1, .ref (a 0)), (2, .ref (am 0)), (3, .ref qo), (4, .int iv)] → W p l e room_1 s m #[Value.ref b] below meth c H locs cN sN (lw_Z below #[Value.ref b] s) (F0 m 23 ls []) := by
  obtain ⟨hx, hb, hr, -, -, -, hX, hbl, hlocks, -⟩ := id C0
  have hbA : ¬ A b := by rw [hA]; exact Nat.not_le.mpr hbl
  have hNi : (Int32.ofNat N).toInt = (N : Int) := Int32.toInt_ofNat_of_lt (by omega)
  have e6 : (6 : Int32).toInt = 6 := by decide
  intro n
  induction n with
  | zero =>
    intro i iv bx a g gm L Lm fJ cN sN H locs ls hn hiN hi hcN hsN hCR hP hD hS hl
    refine lv_iload hx hb dL_law_23 (lv_at hl 4 rfl) ?_
    refine lv_aload_n hx hb dL_law_25 rfl (lv_at hl 0 rfl) ?_
    refine va_slen hx hb hX hbl hbA hS dL_law_26 ?_
    refine lv_bipush (v := 6) hx hb dL_law_27 (by decide) ?_
    refine lv_isub hx hb dL_law_29 ?_
    have e : (Int32.ofNat N - 6).toInt = (N : Int) - 6 := ic_subc hNi e6 (by omega) (by omega)
    generalize Int32.ofNat N - 6 = z at e ⊢
    refine lv_icmp_gt (x := iv) (y := z) (tgt := 1517) hx hb dL_law_30 (by decide) (fun _ => ?_) (fun h_ => absurd (ic_lt.mpr (by omega)) h_)
    refine lv_iconst (v := 1) hx hb dL_law_1517 (by decide) ?_
    refine va_forget (fun q hq => by have h9 := hS.2.2 q hq; rw [hA] at h9; exact h9) ?_
    refine W.widen (show cN ≤ 601024 by omega) (show sN ≤ 7293033 by omega) ?_
    exact lw_ret hx hb hr hlocks dL_law_1518
  | succ n ih =>
    intro i iv bx a g gm L Lm fJ cN sN H locs ls hn hiN hi hcN hsN hCR hP hD hS hl
    refine lv_iload hx hb dL_law_23 (lv_at hl 4 rfl) ?_
    refine lv_aload_n hx hb dL_law_25 rfl (lv_at hl 0 rfl) ?_
    refine va_slen hx hb hX hbl hbA hS dL_law_26 ?_
    refine lv_bipush (v := 6) hx hb dL_law_27 (by decide) ?_
    refine lv_isub hx hb dL_law_29 ?_
    have e : (Int32.ofNat N - 6).toInt = (N : Int) - 6 := ic_subc hNi e6 (by omega) (by omega)
    generalize Int32.ofNat N - 6 = z at e ⊢
    refine lv_icmp_gt (x := iv) (y := z) (tgt := 1517) hx hb dL_law_30 (by decide) (fun _ => ?_) (fun h_ => ?_)
    · refine lv_iconst (v := 1) hx hb dL_law_1517 (by decide) ?_
      refine va_forget (fun q hq => by have h9 := hS.2.2 q hq; rw [hA] at h9; exact h9) ?_
      refine W.widen (show cN ≤ 601024 by omega) (show sN ≤ 7293033 by omega) ?_
      exact lw_ret hx hb hr hlocks dL_law_1518
    have hi6 : i + 6 ≤ N := by have := icc_nlt (m := z.toInt) (n := iv.toInt) rfl rfl h_; omega
    clear h_ e z
    -- the end of a turn
    have nx : ∀ (bx : Nat) (a : Nat → Nat) (g gm : Nat → Nat → Int32) (L Lm : Nat → Nat → Int64) (fJ : Nat → Int64) (H : Heap) (locs : List Loc) (ls : Array Slot), CS g gm → va_P G.1 vwCl (zw G MS 51 am gm Lm ++ (zw G (XS bx) 105 a g L ++ [(qo, .inl (G.2.2.2.2.1, 1, .inr (.inl fJ)))])) H → va_D A (zw G MS 51 am gm Lm ++ (zw G (XS bx) 105 a g L ++ [(qo, .inl (G.2.2.2.2.1, 1, .inr (.inl fJ)))])) → va_S A s.heap H locs → lv_has ls 8 [(0, .ref b), (1, .ref (a 0)), (2, .ref (am 0)), (3, .ref qo), (4, .int iv)] → W p l e room_1 s m #[Value.ref b] below meth c H locs (cN + 10) (sN + 60) (lw_Z below #[Value.ref b] s) (F0 m 1511 ls []) := by
      intro bx a g gm L Lm fJ H locs ls hCR hP hD hS hl
      obtain ⟨iw, hiw⟩ : ∃ z : Int32, iv + Int32.ofInt 6 = z := ⟨_, rfl⟩
      have hi2 : iw.toInt = ((i + 6 : Nat) : Int) := by rw [← hiw, ic_addc hi (n := 6) (by decide) (by omega) (by omega)]; omega
      refine lv_iinc (v := iw) (lv' := [(4, .int iw), (0, .ref b), (1, .ref (a 0)), (2, .ref (am 0)), (3, .ref qo)]) hx hb dL_law_1511 hl (k := 4) rfl hiw (by decide) rfl (fun ls hl => ?_)
      refine lv_goto (tgt := 23) hx hb dL_law_1514 (by decide) ?_
      exact ih (i + 6) iw bx a g gm L Lm fJ (cN + 10) (sN + 60) H locs ls (by omega) hi6 hi2 (by omega) (by omega) hCR hP hD hS (lv_sub hl [1, 2, 3, 4, 0] rfl)
    refine lv_aload_n hx hb dL_law_33 rfl (lv_at hl 0 rfl) ?_
    refine lv_iload hx hb dL_law_34 (lv_at hl 4 rfl) ?_
    refine va_sld hx hb hX hbl hbA hS (vp_in_iff.mpr ⟨by omega, by omega⟩) dL_law_36 ?_
    refine lv_bipush (v := 63) hx hb dL_law_37 (by decide) ?_
    refine lv_iand hx hb dL_law_39 ?_
    refine x_any (fun v => ?_)
    have hCS : CS g gm := hCR
    have hCR : CR g gm := hCS.1
    have hVI : VI gm := hCS.2
    have hCP : CP g gm := hCR.1.1
    have hCD : CD g gm := hCR.1.2
    have hWI : WI gm := hCR.2
    by_cases c0 : v.toInt = 0
    · refine lv_tableIn (off := 172) (tgt := 212) hx hb dL_law_40 (by omega) (by omega) (by rw [c0]; rfl) (by decide) ?_
      obtain ⟨rx, g1, L1, g2, L2, hxx, hmm, hC2⟩ := cp_feed hfu L Lm (xs (i + 1)) (xs (i + 2)) (xs (i + 3)) (xs (i + 4)) (xs (i + 5)) hCP
      have hW2 : WI g2 := wi_fr hWI (w_fX12_feed _ _ _ _ _ _ _ _ _ FW.refl _ _ hmm) (by decide)
      have hV2 : VI g2 := vi_fr hVI (w_fX12_feed _ _ _ _ _ _ _ _ _ FW.refl _ _ hmm) (by decide)
      have hD2 : CD g1 g2 := cd_fr hCP.2.1 hCD (w_fX11_feed_0 _ _ _ _ _ _ _ _ _ FW.refl _ _ hxx) (w_fX12_feed _ _ _ _ _ _ _ _ _ FW.refl _ _ hmm) (by decide) (by decide)
      exact law_0 hst hN2 C0 hA C hi hi6 (sx := (g1, L1)) (sm := (g2, L2)) (by omega) (by omega) hxx hmm hP hD hS hl (fun bx2 a2 fJ2 H1 locs1 ls1 h1 h2 h3 h4 => nx bx2 a2 g1 g2 L1 L2 fJ2 H1 locs1 ls1 ⟨⟨⟨hC2, hD2⟩, hW2⟩, hV2⟩ h1 h2 h3 h4)
    by_cases c1 : v.toInt = 1
    · refine lv_tableIn (off := 245) (tgt := 285) hx hb dL_law_40 (by omega) (by omega) (by rw [c1]; rfl) (by decide) ?_
      obtain ⟨rx, g1, L1, rm, g2, L2, hxx, hmm, hE, hC2⟩ := cp_house hfu L Lm (xs (i + 1)) hCP
      have hW2 : WI g2 := wi_house hfu hCP.2.1 hWI hmm
      have hV2 : VI g2 := vi_house hfu hCP.2.1 hVI hmm
      have hD2 : CD g1 g2 := cd_house hfu hCP hCD hxx hmm hC2.2.1
      exact law_1 hst hN2 C0 hA C hi hi6 (sx := (g1, L1)) (sm := (g2, L2)) (by omega) (by omega) hxx hE hmm hP hD hS hl (fun bx2 a2 fJ2 H1 locs1 ls1 h1 h2 h3 h4 => nx bx2 a2 g1 g2 L1 L2 fJ2 H1 locs1 ls1 ⟨⟨⟨hC2, hD2⟩, hW2⟩, hV2⟩ h1 h2 h3 h4)
    by_cases c2 : v.toInt = 2
    · refine lv_tableIn (off := 273) (tgt := 313) hx hb dL_law_40 (by omega) (by omega) (by rw [c2]; rfl) (by decide) ?_
      obtain ⟨rx, g1, L1, hxx, hq1⟩ := sX11_fault_0 fu hfu  g L hCP.1
      obtain ⟨rm, g2, L2, hmm, hq2⟩ := sX12_fault fu hfu  gm Lm hCP.2.1 hCP.2.2.1
      have hC2 : CP g1 g2 := cp_fr hCP hq1.1 hq2.1 hq2.2.1 (w_fX11_fault_0 _ _ _ _ FW.refl _ _ hxx) (w_fX12_fault _ _ _ _ FW.refl _ _ hmm) (by decide) (by decide)
      have hW2 : WI g2 := wi_fr hWI (w_fX12_fault _ _ _ _ FW.refl _ _ hmm) (by decide)
      have hV2 : VI g2 := vi_fr hVI (w_fX12_fault _ _ _ _ FW.refl _ _ hmm) (by decide)
      have hD2 : CD g1 g2 := cd_fr hCP.2.1 hCD (w_fX11_fault_0 _ _ _ _ FW.refl _ _ hxx) (w_fX12_fault _ _ _ _ FW.refl _ _ hmm) (by decide) (by decide)
      exact law_2 hst hN2 C0 hA C hi hi6 (sx := (g1, L1)) (sm := (g2, L2)) (by omega) (by omega) hxx hmm hP hD hS hl (fun bx2 a2 fJ2 H1 locs1 ls1 h1 h2 h3 h4 => nx bx2 a2 g1 g2 L1 L2 fJ2 H1 locs1 ls1 ⟨⟨⟨hC2, hD2⟩, hW2⟩, hV2⟩ h1 h2 h3 h4)
    by_cases c3 : v.toInt = 3
    · refine lv_tableIn (off := 286) (tgt := 326) hx hb dL_law_40 (by omega) (by omega) (by rw [c3]; rfl) (by decide) ?_
      obtain ⟨rx, g1, L1, hxx, hq1⟩ := sX11_count_0 fu hfu (xs (i + 1)) g L hCP.1
      obtain ⟨rm, g2, L2, hmm, hq2⟩ := sX12_count fu hfu (xs (i + 1)) gm Lm hCP.2.1 hCP.2.2.1
      have hC2 : CP g1 g2 := cp_fr hCP hq1.1 hq2.1 hq2.2.1 (w_fX11_count_0 _ _ _ _ _ FW.refl _ _ hxx) (w_fX12_count _ _ _ _ _ FW.refl _ _ hmm) (by decide) (by decide)
      have hE : ∀ E, rx = .error E → E = "java/util/NoSuchElementException" := fun E h => by
        have q := hq1.2.2.1 E h
        exact q
      have hW2 : WI g2 := wi_fr hWI (w_fX12_count _ _ _ _ _ FW.refl _ _ hmm) (by decide)
      have hV2 : VI g2 := vi_fr hVI (w_fX12_count _ _ _ _ _ FW.refl _ _ hmm) (by decide)
      have hD2 : CD g1 g2 := cd_fr hCP.2.1 hCD (w_fX11_count_0 _ _ _ _ _ FW.refl _ _ hxx) (w_fX12_count _ _ _ _ _ FW.refl _ _ hmm) (by decide) (by decide)
      exact law_3 hst hN2 C0 hA C hi hi6 (sx := (g1, L1)) (sm := (g2, L2)) (by omega) (by omega) hxx hE hmm hP hD hS hl (fun bx2 a2 fJ2 H1 locs1 ls1 h1 h2 h3 h4 => nx bx2 a2 g1 g2 L1 L2 fJ2 H1 locs1 ls1 ⟨⟨⟨hC2, hD2⟩, hW2⟩, hV2⟩ h1 h2 h3 h4)
    by_cases c4 : v.toInt = 4
    · refine lv_tableIn (off := 314) (tgt := 354) hx hb dL_law_40 (by omega) (by omega) (by rw [c4]; rfl) (by decide) ?_
      obtain ⟨rx, g1, L1, hxx, hq1⟩ := sX11_lesson_0 fu hfu (xs (i + 1)) (xs (i + 2)) g L hCP.1
      obtain ⟨rm, g2, L2, hmm, hq2⟩ := sX12_lesson fu hfu (xs (i + 1)) (xs (i + 2)) gm Lm hCP.2.1 hCP.2.2.1
      have hC2 : CP g1 g2 := cp_fr hCP hq1.1 hq2.1 hq2.2.1 (w_fX11_lesson_0 _ _ _ _ _ _ FW.refl _ _ hxx) (w_fX12_lesson _ _ _ _ _ _ FW.refl _ _ hmm) (by decide) (by decide)
      have hE : ∀ E, rx = .error E → E = "java/util/NoSuchElementException" := fun E h => by
        have q := hq1.2.2.1 E h
        exact q
      have hW2 : WI g2 := wi_fr hWI (w_fX12_lesson _ _ _ _ _ _ FW.refl _ _ hmm) (by decide)
      have hV2 : VI g2 := vi_fr hVI (w_fX12_lesson _ _ _ _ _ _ FW.refl _ _ hmm) (by decide)
      have hD2 : CD g1 g2 := cd_fr hCP.2.1 hCD (w_fX11_lesson_0 _ _ _ _ _ _ FW.refl _ _ hxx) (w_fX12_lesson _ _ _ _ _ _ FW.refl _ _ hmm) (by decide) (by decide)
      exact law_4 hst hN2 C0 hA C hi hi6 (sx := (g1, L1)) (sm := (g2, L2)) (by omega) (by omega) hxx hE hmm hP hD hS hl (fun bx2 a2 fJ2 H1 locs1 ls1 h1 h2 h3 h4 => nx bx2 a2 g1 g2 L1 L2 fJ2 H1 locs1 ls1 ⟨⟨⟨hC2, hD2⟩, hW2⟩, hV2⟩ h1 h2 h3 h4)
    by_cases c5 : v.toInt = 5
    · refine lv_tableIn (off := 354) (tgt := 394) hx hb dL_law_40 (by omega) (by omega) (by rw [c5]; rfl) (by decide) ?_
      obtain ⟨rx, g1, L1, hxx, hq1⟩ := sX11_day_0 fu hfu (xs (i + 1)) (xs (i + 2)) g L hCP.1
      obtain ⟨rm, g2, L2, hmm, hq2⟩ := sX12_day fu hfu (xs (i + 1)) (xs (i + 2)) gm Lm hCP.2.1 hCP.2.2.1
      have hC2 : CP g1 g2 := cp_fr hCP hq1.1 hq2.1 hq2.2.1 (w_fX11_day_0 _ _ _ _ _ _ FW.refl _ _ hxx) (w_fX12_day _ _ _ _ _ _ FW.refl _ _ hmm) (by decide) (by decide)
      have hE : ∀ E, rx = .error E → E = "java/util/NoSuchElementException" := fun E h => by
        have q := hq1.2.2.1 E h
        exact q
      have hW2 : WI g2 := wi_fr hWI (w_fX12_day _ _ _ _ _ _ FW.refl _ _ hmm) (by decide)
      have hV2 : VI g2 := vi_fr hVI (w_fX12_day _ _ _ _ _ _ FW.refl _ _ hmm) (by decide)
      have hD2 : CD g1 g2 := cd_fr hCP.2.1 hCD (w_fX11_day_0 _ _ _ _ _ _ FW.refl _ _ hxx) (w_fX12_day _ _ _ _ _ _ FW.refl _ _ hmm) (by decide) (by decide)
      exact law_5 hst hN2 C0 hA C hi hi6 (sx := (g1, L1)) (sm := (g2, L2)) (by omega) (by omega) hxx hE hmm hP hD hS hl (fun bx2 a2 fJ2 H1 locs1 ls1 h1 h2 h3 h4 => nx bx2 a2 g1 g2 L1 L2 fJ2 H1 locs1 ls1 ⟨⟨⟨hC2, hD2⟩, hW2⟩, hV2⟩ h1 h2 h3 h4)
    by_cases c6 : v.toInt = 6
    · refine lv_tableIn (off := 394) (tgt := 434) hx hb dL_law_40 (by omega) (by omega) (by rw [c6]; rfl) (by decide) ?_
      obtain ⟨rx, g1, L1, hxx, hq1⟩ := sX11_chain_0 fu hfu (xs (i + 1)) (xs (i + 2)) g L hCP.1
      obtain ⟨rm, g2, L2, hmm, hq2⟩ := sX12_chain fu hfu (xs (i + 1)) (xs (i + 2)) gm Lm hCP.2.1 hCP.2.2.1
      have hC2 : CP g1 g2 := cp_fr hCP hq1.1 hq2.1 hq2.2.1 (w_fX11_chain_0 _ _ _ _ _ _ FW.refl _ _ hxx) (w_fX12_chain _ _ _ _ _ _ FW.refl _ _ hmm) (by decide) (by decide)
      have hE : ∀ E, rx = .error E → E = "java/util/NoSuchElementException" := fun E h => by
        have q := hq1.2.2.1 E h
        exact q
      have hW2 : WI g2 := wi_fr hWI (w_fX12_chain _ _ _ _ _ _ FW.refl _ _ hmm) (by decide)
      have hV2 : VI g2 := vi_fr hVI (w_fX12_chain _ _ _ _ _ _ FW.refl _ _ hmm) (by decide)
      have hD2 : CD g1 g2 := cd_fr hCP.2.1 hCD (w_fX11_chain_0 _ _ _ _ _ _ FW.refl _ _ hxx) (w_fX12_chain _ _ _ _ _ _ FW.refl _ _ hmm) (by decide) (by decide)
      exact law_6 hst hN2 C0 hA C hi hi6 (sx := (g1, L1)) (sm := (g2, L2)) (by omega) (by omega) hxx hE hmm hP hD hS hl (fun bx2 a2 fJ2 H1 locs1 ls1 h1 h2 h3 h4 => nx bx2 a2 g1 g2 L1 L2 fJ2 H1 locs1 ls1 ⟨⟨⟨hC2, hD2⟩, hW2⟩, hV2⟩ h1 h2 h3 h4)
    by_cases c7 : v.toInt = 7
    · refine lv_tableIn (off := 434) (tgt := 474) hx hb dL_law_40 (by omega) (by omega) (by rw [c7]; rfl) (by decide) ?_
      obtain ⟨rx, g1, L1, hxx, hq1⟩ := sX11_become_0 fu hfu (xs (i + 1)) (xs (i + 2)) (xs (i + 3)) g L hCP.1
      obtain ⟨rm, g2, L2, hmm, hq2⟩ := sX12_become fu hfu (xs (i + 1)) (xs (i + 2)) (xs (i + 3)) gm Lm hCP.2.1 hCP.2.2.1
      have hC2 : CP g1 g2 := cp_become hCP hxx hmm hq1.1 hq2.1 hq2.2.1
      have hE : ∀ E, rx = .error E → E = "java/util/NoSuchElementException" := fun E h => by
        have q := hq1.2.2.1 E h
        exact q
      have hW2 : WI g2 := wi_become hCP.2.1 hWI _ _ _ hmm
      have hV2 : VI g2 := vi_become hCP.2.1 hVI _ _ _ hmm
      obtain ⟨hD2, hcd⟩ := cd_become hCP hCD hxx hmm
      exact law_7 hst hN2 C0 hA C hi hi6 (sx := (g1, L1)) (sm := (g2, L2)) (by omega) (by omega) hxx hE hmm hP hD hS hl (fun bx2 a2 fJ2 H1 locs1 ls1 h1 h2 h3 h4 => nx bx2 a2 g1 g2 L1 L2 fJ2 H1 locs1 ls1 ⟨⟨⟨hC2, hD2⟩, hW2⟩, hV2⟩ h1 h2 h3 h4)
    by_cases c8 : v.toInt = 8
    · refine lv_tableIn (off := 486) (tgt := 526) hx hb dL_law_40 (by omega) (by omega) (by rw [c8]; rfl) (by decide) ?_
      obtain ⟨rx, g1, L1, hxx, hq1⟩ := sX11_obey_0 fu hfu (xs (i + 1)) g L hCP.1
      obtain ⟨rm, g2, L2, hmm, hq2⟩ := sX12_obey fu hfu (xs (i + 1)) gm Lm hCP.2.1 hCP.2.2.1
      obtain ⟨hC2, hcc⟩ := cp_obey hCP hxx hmm hq1.1 hq2.1 hq2.2.1
      have hW2 : WI g2 := wi_obey hCP.2.1 hWI _ _ _ hmm
      have hV2 : VI g2 := vi_obey hCP.2.1 hVI _ _ _ hmm
      have hD2 : CD g1 g2 := cd_obey hCP hCD hxx hmm
      exact law_8 hst hN2 C0 hA C hi hi6 (sx := (g1, L1)) (sm := (g2, L2)) (by omega) (by omega) hxx hmm hP hD hS hl (fun bx2 a2 fJ2 H1 locs1 ls1 h1 h2 h3 h4 => nx bx2 a2 g1 g2 L1 L2 fJ2 H1 locs1 ls1 ⟨⟨⟨hC2, hD2⟩, hW2⟩, hV2⟩ h1 h2 h3 h4)
    by_cases c9 : v.toInt = 9
    · refine lv_tableIn (off := 511) (tgt := 551) hx hb dL_law_40 (by omega) (by omega) (by rw [c9]; rfl) (by decide) ?_
      obtain ⟨rx, g1, L1, hxx, hq1⟩ := sX11_undo_0 fu hfu  g L hCP.1
      obtain ⟨rm, g2, L2, hmm, hq2⟩ := sX12_undo fu hfu  gm Lm hCP.2.1 hCP.2.2.1
      obtain ⟨hC2, hcc⟩ := cp_undo hCP hxx hmm hq1.1 hq2.1 hq2.2.1
      have hW2 : WI g2 := wi_undo hCP.2.1 hWI _ _ _ hmm
      have hV2 : VI g2 := vi_undo hCP.2.1 hVI _ _ _ hmm
      have hD2 : CD g1 g2 := cd_undo hCP hCD hxx hmm
      exact law_9 hst hN2 C0 hA C hi hi6 (sx := (g1, L1)) (sm := (g2, L2)) (by omega) (by omega) hxx hmm hP hD hS hl (fun bx2 a2 fJ2 H1 locs1 ls1 h1 h2 h3 h4 => nx bx2 a2 g1 g2 L1 L2 fJ2 H1 locs1 ls1 ⟨⟨⟨hC2, hD2⟩, hW2⟩, hV2⟩ h1 h2 h3 h4)
    by_cases c10 : v.toInt = 10
    · refine lv_tableIn (off := 524) (tgt := 564) hx hb dL_law_40 (by omega) (by omega) (by rw [c10]; rfl) (by decide) ?_
      obtain ⟨rx, g1, L1, hxx, hq1⟩ := sX11_far_0 fu hfu (xs (i + 1)) (xs (i + 2)) (xs (i + 3)) g L hCP.1
      obtain ⟨rm, g2, L2, hmm, hq2⟩ := sX12_far fu hfu (xs (i + 1)) (xs (i + 2)) (xs (i + 3)) gm Lm hCP.2.1 hCP.2.2.1
      have hC2 : CP g1 g2 := cp_fr hCP hq1.1 hq2.1 hq2.2.1 (w_fX11_far_0 _ _ _ _ _ _ _ FW.refl _ _ hxx) (w_fX12_far _ _ _ _ _ _ _ FW.refl _ _ hmm) (by decide) (by decide)
      have hE : ∀ E, rx = .error E → E = "java/util/NoSuchElementException" ∨ E = "java/lang/IllegalArgumentException" := fun E h => by
        have q := hq1.2.2.1 E h
        first | exact q | exact q.symm | exact Or.inl q | exact Or.inr q
      have hW2 : WI g2 := wi_rs hCP.2.1 hWI (w_fX12_far _ _ _ _ _ _ _ FW.refl _ _ hmm) (rm_far hCD.2.2.2.2.2.2.2 _ _ _ hmm) (by decide)
      have hV2 : VI g2 := vi_rs hCP.2.1 hVI (w_fX12_far _ _ _ _ _ _ _ FW.refl _ _ hmm) (rm_far hCD.2.2.2.2.2.2.2 _ _ _ hmm) (by decide)
      have hD2 : CD g1 g2 := cd_rs hCP.2.1 hCD (w_fX11_far_0 _ _ _ _ _ _ _ FW.refl _ _ hxx) (rsp_far hCD.2.2.2.2.2.1 _ _ _ hxx) (w_fX12_far _ _ _ _ _ _ _ FW.refl _ _ hmm) (rm_far hCD.2.2.2.2.2.2.2 _ _ _ hmm) (by decide) (by decide)
      exact law_10 hst hN2 C0 hA C hi hi6 (sx := (g1, L1)) (sm := (g2, L2)) (by omega) (by omega) hxx hE hmm (cr_far hCR hxx hmm) hP hD hS hl (fun bx2 a2 fJ2 H1 locs1 ls1 h1 h2 h3 h4 => nx bx2 a2 g1 g2 L1 L2 fJ2 H1 locs1 ls1 ⟨⟨⟨hC2, hD2⟩, hW2⟩, hV2⟩ h1 h2 h3 h4)
    by_cases c11 : v.toInt = 11
    · refine lv_tableIn (off := 604) (tgt := 644) hx hb dL_law_40 (by omega) (by omega) (by rw [c11]; rfl) (by decide) ?_
      obtain ⟨rx, g1, L1, hxx, hq1⟩ := sX11_reaches_0 fu hfu (xs (i + 1)) (xs (i + 2)) g L hCP.1
      obtain ⟨rm, g2, L2, hmm, hq2⟩ := sX12_reaches fu hfu (xs (i + 1)) (xs (i + 2)) gm Lm hCP.2.1 hCP.2.2.1
      have hC2 : CP g1 g2 := cp_fr hCP hq1.1 hq2.1 hq2.2.1 (w_fX11_reaches_0 _ _ _ _ _ _ FW.refl _ _ hxx) (w_fX12_reaches _ _ _ _ _ _ FW.refl _ _ hmm) (by decide) (by decide)
      have hE : ∀ E, rx = .error E → E = "java/util/NoSuchElementException" ∨ E = "java/lang/IllegalArgumentException" := fun E h => by
        have q := hq1.2.2.1 E h
        first | exact q | exact q.symm | exact Or.inl q | exact Or.inr q
      have hW2 : WI g2 := wi_rs hCP.2.1 hWI (w_fX12_reaches _ _ _ _ _ _ FW.refl _ _ hmm) (rm_reaches hCD.2.2.2.2.2.2.2 _ _ _ hmm) (by decide)
      have hV2 : VI g2 := vi_rs hCP.2.1 hVI (w_fX12_reaches _ _ _ _ _ _ FW.refl _ _ hmm) (rm_reaches hCD.2.2.2.2.2.2.2 _ _ _ hmm) (by decide)
      have hD2 : CD g1 g2 := cd_rs hCP.2.1 hCD (w_fX11_reaches_0 _ _ _ _ _ _ FW.refl _ _ hxx) (rsp_reaches hCD.2.2.2.2.2.1 _ _ _ hxx) (w_fX12_reaches _ _ _ _ _ _ FW.refl _ _ hmm) (rm_reaches hCD.2.2.2.2.2.2.2 _ _ _ hmm) (by decide) (by decide)
      exact law_11 hst hN2 C0 hA C hi hi6 (sx := (g1, L1)) (sm := (g2, L2)) (by omega) (by omega) hxx hE hmm hP hD hS hl (fun bx2 a2 fJ2 H1 locs1 ls1 h1 h2 h3 h4 => nx bx2 a2 g1 g2 L1 L2 fJ2 H1 locs1 ls1 ⟨⟨⟨hC2, hD2⟩, hW2⟩, hV2⟩ h1 h2 h3 h4)
    by_cases c12 : v.toInt = 12
    · refine lv_tableIn (off := 644) (tgt := 684) hx hb dL_law_40 (by omega) (by omega) (by rw [c12]; rfl) (by decide) ?_
      obtain ⟨rx, g1, L1, hxx, hq1⟩ := sX11_slack_0 fu hfu (xs (i + 1)) g L hCP.1
      obtain ⟨rm, g2, L2, hmm, hq2⟩ := sX12_slack fu hfu (xs (i + 1)) gm Lm hCP.2.1 hCP.2.2.1
      have hC2 : CP g1 g2 := cp_fr hCP hq1.1 hq2.1 hq2.2.1 (w_fX11_slack_0 _ _ _ _ _ FW.refl _ _ hxx) (w_fX12_slack _ _ _ _ _ FW.refl _ _ hmm) (by decide) (by decide)
      have hE : ∀ E, rx = .error E → E = "java/util/NoSuchElementException" := fun E h => by
        have q := hq1.2.2.1 E h
        exact q
      have hW2 : WI g2 := wi_rs hCP.2.1 hWI (w_fX12_slack _ _ _ _ _ FW.refl _ _ hmm) (rm_slack hCD.2.2.2.2.2.2.2 _ _ _ hmm) (by decide)
      have hV2 : VI g2 := vi_rs hCP.2.1 hVI (w_fX12_slack _ _ _ _ _ FW.refl _ _ hmm) (rm_slack hCD.2.2.2.2.2.2.2 _ _ _ hmm) (by decide)
      have hD2 : CD g1 g2 := cd_rs hCP.2.1 hCD (w_fX11_slack_0 _ _ _ _ _ FW.refl _ _ hxx) (rsp_slack hCD.2.2.2.2.2.1 _ _ _ hxx) (w_fX12_slack _ _ _ _ _ FW.refl _ _ hmm) (rm_slack hCD.2.2.2.2.2.2.2 _ _ _ hmm) (by decide) (by decide)
      exact law_12 hst hN2 C0 hA C hi hi6 (sx := (g1, L1)) (sm := (g2, L2)) (by omega) (by omega) hxx hE hmm hP hD hS hl (fun bx2 a2 fJ2 H1 locs1 ls1 h1 h2 h3 h4 => nx bx2 a2 g1 g2 L1 L2 fJ2 H1 locs1 ls1 ⟨⟨⟨hC2, hD2⟩, hW2⟩, hV2⟩ h1 h2 h3 h4)
    by_cases c13 : v.toInt = 13
    · refine lv_tableIn (off := 672) (tgt := 712) hx hb dL_law_40 (by omega) (by omega) (by rw [c13]; rfl) (by decide) ?_
      obtain ⟨rx, g1, L1, hxx, hq1⟩ := sX11_gaps_0 fu hfu (xs (i + 1)) (xs (i + 2)) (xs (i + 3)) g L hCP.1
      obtain ⟨rm, g2, L2, hmm, hq2⟩ := sX12_gaps fu hfu (xs (i + 1)) (xs (i + 2)) (xs (i + 3)) gm Lm hCP.2.1 hCP.2.2.1
      have hC2 : CP g1 g2 := cp_fr hCP hq1.1 hq2.1 hq2.2.1 (w_fX11_gaps_0 _ _ _ _ _ _ _ FW.refl _ _ hxx) (w_fX12_gaps _ _ _ _ _ _ _ FW.refl _ _ hmm) (by decide) (by decide)
      have hE : ∀ E, rx = .error E → E = "java/util/NoSuchElementException" ∨ E = "java/lang/IllegalArgumentException" := fun E h => by
        have q := hq1.2.2.1 E h
        first | exact q | exact q.symm | exact Or.inl q | exact Or.inr q
      have hW2 : WI g2 := wi_rs hCP.2.1 hWI (w_fX12_gaps _ _ _ _ _ _ _ FW.refl _ _ hmm) (rm_gaps _ _ _ hmm) (by decide)
      have hV2 : VI g2 := vi_rs hCP.2.1 hVI (w_fX12_gaps _ _ _ _ _ _ _ FW.refl _ _ hmm) (rm_gaps _ _ _ hmm) (by decide)
      have hD2 : CD g1 g2 := cd_rs hCP.2.1 hCD (w_fX11_gaps_0 _ _ _ _ _ _ _ FW.refl _ _ hxx) (rsp_gaps _ _ _ hxx) (w_fX12_gaps _ _ _ _ _ _ _ FW.refl _ _ hmm) (rm_gaps _ _ _ hmm) (by decide) (by decide)
      exact law_13 hst hN2 C0 hA C hi hi6 (sx := (g1, L1)) (sm := (g2, L2)) (by omega) (by omega) hxx hE hmm hP hD hS hl (fun bx2 a2 fJ2 H1 locs1 ls1 h1 h2 h3 h4 => nx bx2 a2 g1 g2 L1 L2 fJ2 H1 locs1 ls1 ⟨⟨⟨hC2, hD2⟩, hW2⟩, hV2⟩ h1 h2 h3 h4)
    by_cases c14 : v.toInt = 14
    · refine lv_tableIn (off := 724) (tgt := 764) hx hb dL_law_40 (by omega) (by omega) (by rw [c14]; rfl) (by decide) ?_
      obtain ⟨rx, g1, L1, hxx, hq1⟩ := sX11_gap_0 fu hfu (xs (i + 1)) g L hCP.1
      obtain ⟨rm, g2, L2, hmm, hq2⟩ := sX12_gap fu hfu (xs (i + 1)) gm Lm hCP.2.1 hCP.2.2.1
      have hC2 : CP g1 g2 := cp_fr hCP hq1.1 hq2.1 hq2.2.1 (w_fX11_gap_0 _ _ _ _ _ FW.refl _ _ hxx) (w_fX12_gap _ _ _ _ _ FW.refl _ _ hmm) (by decide) (by decide)
      have hE : ∀ E, rx = .error E → E = "java/util/NoSuchElementException" := fun E h => by
        have q := hq1.2.2.1 E h
        exact q
      have hW2 : WI g2 := wi_fr hWI (w_fX12_gap _ _ _ _ _ FW.refl _ _ hmm) (by decide)
      have hV2 : VI g2 := vi_fr hVI (w_fX12_gap _ _ _ _ _ FW.refl _ _ hmm) (by decide)
      have hD2 : CD g1 g2 := cd_fr hCP.2.1 hCD (w_fX11_gap_0 _ _ _ _ _ FW.refl _ _ hxx) (w_fX12_gap _ _ _ _ _ FW.refl _ _ hmm) (by decide) (by decide)
      exact law_14 hst hN2 C0 hA C hi hi6 (sx := (g1, L1)) (sm := (g2, L2)) (by omega) (by omega) hxx hE hmm hP hD hS hl (fun bx2 a2 fJ2 H1 locs1 ls1 h1 h2 h3 h4 => nx bx2 a2 g1 g2 L1 L2 fJ2 H1 locs1 ls1 ⟨⟨⟨hC2, hD2⟩, hW2⟩, hV2⟩ h1 h2 h3 h4)
    by_cases c15 : v.toInt = 15
    · refine lv_tableIn (off := 752) (tgt := 792) hx hb dL_law_40 (by omega) (by omega) (by rw [c15]; rfl) (by decide) ?_
      obtain ⟨rx, g1, L1, hxx, hq1⟩ := sX11_chance_0 fu hfu (xs (i + 1)) (xs (i + 2)) (xs (i + 3)) g L hCP.1
      obtain ⟨rm, g2, L2, hmm, hq2⟩ := sX12_chance fu hfu (xs (i + 1)) (xs (i + 2)) (xs (i + 3)) gm Lm hCP.2.1 hCP.2.2.1
      have hC2 : CP g1 g2 := cp_fr hCP hq1.1 hq2.1 hq2.2.1 (w_fX11_chance_0 _ _ _ _ _ _ _ FW.refl _ _ hxx) (w_fX12_chance _ _ _ _ _ _ _ FW.refl _ _ hmm) (by decide) (by decide)
      have hE : ∀ E, rx = .error E → E = "java/util/NoSuchElementException" ∨ E = "java/lang/IllegalArgumentException" := fun E h => by
        have q := hq1.2.2.1 E h
        first | exact q | exact q.symm | exact Or.inl q | exact Or.inr q
      have hW2 : WI g2 := wi_rs hCP.2.1 hWI (w_fX12_chance _ _ _ _ _ _ _ FW.refl _ _ hmm) (rm_chance hCD.2.2.2.2.2.2.1 _ _ _ hmm) (by decide)
      have hV2 : VI g2 := vi_rs hCP.2.1 hVI (w_fX12_chance _ _ _ _ _ _ _ FW.refl _ _ hmm) (rm_chance hCD.2.2.2.2.2.2.1 _ _ _ hmm) (by decide)
      have hD2 : CD g1 g2 := cd_rs hCP.2.1 hCD (w_fX11_chance_0 _ _ _ _ _ _ _ FW.refl _ _ hxx) (rsp_chance hCD.2.2.2.2.1 _ _ _ hxx) (w_fX12_chance _ _ _ _ _ _ _ FW.refl _ _ hmm) (rm_chance hCD.2.2.2.2.2.2.1 _ _ _ hmm) (by decide) (by decide)
      exact law_15 hst hN2 C0 hA C hi hi6 (sx := (g1, L1)) (sm := (g2, L2)) (by omega) (by omega) hxx hE hmm hP hD hS hl (fun bx2 a2 fJ2 H1 locs1 ls1 h1 h2 h3 h4 => nx bx2 a2 g1 g2 L1 L2 fJ2 H1 locs1 ls1 ⟨⟨⟨hC2, hD2⟩, hW2⟩, hV2⟩ h1 h2 h3 h4)
    by_cases c16 : v.toInt = 16
    · refine lv_tableIn (off := 804) (tgt := 844) hx hb dL_law_40 (by omega) (by omega) (by rw [c16]; rfl) (by decide) ?_
      obtain ⟨rx, g1, L1, hxx, hq1⟩ := sX11_mean_0 fu hfu (xs (i + 1)) (xs (i + 2)) g L hCP.1
      obtain ⟨rm, g2, L2, hmm, hq2⟩ := sX12_mean fu hfu (xs (i + 1)) (xs (i + 2)) gm Lm hCP.2.1 hCP.2.2.1
      have hC2 : CP g1 g2 := cp_fr hCP hq1.1 hq2.1 hq2.2.1 (w_fX11_mean_0 _ _ _ _ _ _ FW.refl _ _ hxx) (w_fX12_mean _ _ _ _ _ _ FW.refl _ _ hmm) (by decide) (by decide)
      have hE : ∀ E, rx = .error E → E = "java/util/NoSuchElementException" := fun E h => by
        have q := hq1.2.2.1 E h
        exact q
      have hW2 : WI g2 := wi_rs hCP.2.1 hWI (w_fX12_mean _ _ _ _ _ _ FW.refl _ _ hmm) (rm_mean hCD.2.2.2.2.2.2.1 _ _ _ hmm) (by decide)
      have hV2 : VI g2 := vi_rs hCP.2.1 hVI (w_fX12_mean _ _ _ _ _ _ FW.refl _ _ hmm) (rm_mean hCD.2.2.2.2.2.2.1 _ _ _ hmm) (by decide)
      have hD2 : CD g1 g2 := cd_rs hCP.2.1 hCD (w_fX11_mean_0 _ _ _ _ _ _ FW.refl _ _ hxx) (rsp_mean hCD.2.2.2.2.1 _ _ _ hxx) (w_fX12_mean _ _ _ _ _ _ FW.refl _ _ hmm) (rm_mean hCD.2.2.2.2.2.2.1 _ _ _ hmm) (by decide) (by decide)
      exact law_16 hst hN2 C0 hA C hi hi6 (sx := (g1, L1)) (sm := (g2, L2)) (by omega) (by omega) hxx hE hmm hP hD hS hl (fun bx2 a2 fJ2 H1 locs1 ls1 h1 h2 h3 h4 => nx bx2 a2 g1 g2 L1 L2 fJ2 H1 locs1 ls1 ⟨⟨⟨hC2, hD2⟩, hW2⟩, hV2⟩ h1 h2 h3 h4)
    by_cases c17 : v.toInt = 17
    · refine lv_tableIn (off := 844) (tgt := 884) hx hb dL_law_40 (by omega) (by omega) (by rw [c17]; rfl) (by decide) ?_
      obtain ⟨rx, g1, L1, hxx, hq1⟩ := sX11_swap_0 fu hfu (xs (i + 1)) g L hCP.1
      obtain ⟨rm, g2, L2, hmm, hq2⟩ := sX12_swap fu hfu (xs (i + 1)) gm Lm hCP.2.1 hCP.2.2.1
      have hC2 : CP g1 g2 := cp_fr hCP hq1.1 hq2.1 hq2.2.1 (w_fX11_swap_0 _ _ _ _ _ FW.refl _ _ hxx) (w_fX12_swap _ _ _ _ _ FW.refl _ _ hmm) (by decide) (by decide)
      have hE : ∀ E, rx = .error E → E = "java/util/NoSuchElementException" := fun E h => by
        have q := hq1.2.2.1 E h
        exact q
      have hW2 : WI g2 := wi_rs hCP.2.1 hWI (w_fX12_swap _ _ _ _ _ FW.refl _ _ hmm) (rm_swap _ _ _ hmm) (by decide)
      have hV2 : VI g2 := vi_rs hCP.2.1 hVI (w_fX12_swap _ _ _ _ _ FW.refl _ _ hmm) (rm_swap _ _ _ hmm) (by decide)
      have hD2 : CD g1 g2 := cd_rs hCP.2.1 hCD (w_fX11_swap_0 _ _ _ _ _ FW.refl _ _ hxx) (rsp_swap _ _ _ hxx) (w_fX12_swap _ _ _ _ _ FW.refl _ _ hmm) (rm_swap _ _ _ hmm) (by decide) (by decide)
      exact law_17 hst hN2 C0 hA C hi hi6 (sx := (g1, L1)) (sm := (g2, L2)) (by omega) (by omega) hxx hE hmm hP hD hS hl (fun bx2 a2 fJ2 H1 locs1 ls1 h1 h2 h3 h4 => nx bx2 a2 g1 g2 L1 L2 fJ2 H1 locs1 ls1 ⟨⟨⟨hC2, hD2⟩, hW2⟩, hV2⟩ h1 h2 h3 h4)
    by_cases c18 : v.toInt = 18
    · refine lv_tableIn (off := 872) (tgt := 912) hx hb dL_law_40 (by omega) (by omega) (by rw [c18]; rfl) (by decide) ?_
      obtain ⟨rx, g1, L1, hxx, hq1⟩ := sX11_room_0 fu hfu (xs (i + 1)) (xs (i + 2)) g L hCP.1
      obtain ⟨rm, g2, L2, hmm, hq2⟩ := sX12_room fu hfu (xs (i + 1)) (xs (i + 2)) gm Lm hCP.2.1 hCP.2.2.1
      have hC2 : CP g1 g2 := cp_fr hCP hq1.1 hq2.1 hq2.2.1 (w_fX11_room_0 _ _ _ _ _ _ FW.refl _ _ hxx) (w_fX12_room _ _ _ _ _ _ FW.refl _ _ hmm) (by decide) (by decide)
      have hE : ∀ E, rx = .error E → E = "java/util/NoSuchElementException" := fun E h => by
        have q := hq1.2.2.1 E h
        exact q
      have hW2 : WI g2 := wi_rs hCP.2.1 hWI (w_fX12_room _ _ _ _ _ _ FW.refl _ _ hmm) (rm_room _ _ _ hmm) (by decide)
      have hV2 : VI g2 := vi_rs hCP.2.1 hVI (w_fX12_room _ _ _ _ _ _ FW.refl _ _ hmm) (rm_room _ _ _ hmm) (by decide)
      have hD2 : CD g1 g2 := cd_rs hCP.2.1 hCD (w_fX11_room_0 _ _ _ _ _ _ FW.refl _ _ hxx) (rsp_room _ _ _ hxx) (w_fX12_room _ _ _ _ _ _ FW.refl _ _ hmm) (rm_room _ _ _ hmm) (by decide) (by decide)
      exact law_18 hst hN2 C0 hA C hi hi6 (sx := (g1, L1)) (sm := (g2, L2)) (by omega) (by omega) hxx hE hmm hP hD hS hl (fun bx2 a2 fJ2 H1 locs1 ls1 h1 h2 h3 h4 => nx bx2 a2 g1 g2 L1 L2 fJ2 H1 locs1 ls1 ⟨⟨⟨hC2, hD2⟩, hW2⟩, hV2⟩ h1 h2 h3 h4)
    by_cases c19 : v.toInt = 19
    · refine lv_tableIn (off := 912) (tgt := 952) hx hb dL_law_40 (by omega) (by omega) (by rw [c19]; rfl) (by decide) ?_
      obtain ⟨rx, g1, L1, hxx, hq1⟩ := sX11_limit_0 fu hfu (xs (i + 1)) (xs (i + 2)) g L hCP.1
      obtain ⟨rm, g2, L2, hmm, hq2⟩ := sX12_limit fu hfu (xs (i + 1)) (xs (i + 2)) gm Lm hCP.2.1 hCP.2.2.1
      have hC2 : CP g1 g2 := cp_fr hCP hq1.1 hq2.1 hq2.2.1 (w_fX11_limit_0 _ _ _ _ _ _ FW.refl _ _ hxx) (w_fX12_limit _ _ _ _ _ _ FW.refl _ _ hmm) (by decide) (by decide)
      have hE : ∀ E, rx = .error E → E = "java/util/NoSuchElementException" := fun E h => by
        have q := hq1.2.2.1 E h
        exact q
      have hW2 : WI g2 := wi_rs hCP.2.1 hWI (w_fX12_limit _ _ _ _ _ _ FW.refl _ _ hmm) (rm_limit _ _ _ hmm) (by decide)
      have hV2 : VI g2 := vi_rs hCP.2.1 hVI (w_fX12_limit _ _ _ _ _ _ FW.refl _ _ hmm) (rm_limit _ _ _ hmm) (by decide)
      have hD2 : CD g1 g2 := cd_rs hCP.2.1 hCD (w_fX11_limit_0 _ _ _ _ _ _ FW.refl _ _ hxx) (rsp_limit _ _ _ hxx) (w_fX12_limit _ _ _ _ _ _ FW.refl _ _ hmm) (rm_limit _ _ _ hmm) (by decide) (by decide)
      exact law_19 hst hN2 C0 hA C hi hi6 (sx := (g1, L1)) (sm := (g2, L2)) (by omega) (by omega) hxx hE hmm hP hD hS hl (fun bx2 a2 fJ2 H1 locs1 ls1 h1 h2 h3 h4 => nx bx2 a2 g1 g2 L1 L2 fJ2 H1 locs1 ls1 ⟨⟨⟨hC2, hD2⟩, hW2⟩, hV2⟩ h1 h2 h3 h4)
    by_cases c20 : v.toInt = 20
    · refine lv_tableIn (off := 952) (tgt := 992) hx hb dL_law_40 (by omega) (by omega) (by rw [c20]; rfl) (by decide) ?_
      obtain ⟨rx, g1, L1, hxx, hq1⟩ := sX11_last_0 fu hfu  g L hCP.1
      obtain ⟨rm, g2, L2, hmm, hq2⟩ := sX12_last fu hfu  gm Lm hCP.2.1 hCP.2.2.1
      have hC2 : CP g1 g2 := cp_fr hCP hq1.1 hq2.1 hq2.2.1 (w_fX11_last_0 _ _ _ _ FW.refl _ _ hxx) (w_fX12_last _ _ _ _ FW.refl _ _ hmm) (by decide) (by decide)
      have hW2 : WI g2 := wi_rs hCP.2.1 hWI (w_fX12_last _ _ _ _ FW.refl _ _ hmm) (rm_last _ _ _ hmm) (by decide)
      have hV2 : VI g2 := vi_rs hCP.2.1 hVI (w_fX12_last _ _ _ _ FW.refl _ _ hmm) (rm_last _ _ _ hmm) (by decide)
      have hD2 : CD g1 g2 := cd_rs hCP.2.1 hCD (w_fX11_last_0 _ _ _ _ FW.refl _ _ hxx) (rsp_last _ _ _ hxx) (w_fX12_last _ _ _ _ FW.refl _ _ hmm) (rm_last _ _ _ hmm) (by decide) (by decide)
      exact law_20 hst hN2 C0 hA C hi hi6 (sx := (g1, L1)) (sm := (g2, L2)) (by omega) (by omega) hxx hmm hP hD hS hl (fun bx2 a2 fJ2 H1 locs1 ls1 h1 h2 h3 h4 => nx bx2 a2 g1 g2 L1 L2 fJ2 H1 locs1 ls1 ⟨⟨⟨hC2, hD2⟩, hW2⟩, hV2⟩ h1 h2 h3 h4)
    by_cases c21 : v.toInt = 21
    · refine lv_tableIn (off := 965) (tgt := 1005) hx hb dL_law_40 (by omega) (by omega) (by rw [c21]; rfl) (by decide) ?_
      obtain ⟨rx, g1, L1, hxx, hq1⟩ := sX11_compare_0 fu hfu (xs (i + 1)) g L hCP.1
      obtain ⟨rm, g2, L2, hmm, hq2⟩ := sX12_compare fu hfu (xs (i + 1)) gm Lm hCP.2.1 hCP.2.2.1
      have hC2 : CP g1 g2 := cp_fr hCP hq1.1 hq2.1 hq2.2.1 (w_fX11_compare_0 _ _ _ _ _ FW.refl _ _ hxx) (w_fX12_compare _ _ _ _ _ FW.refl _ _ hmm) (by decide) (by decide)
      have hE : ∀ E, rx = .error E → E = "java/util/NoSuchElementException" := fun E h => by
        have q := hq1.2.2.1 E h
        exact q
      have hW2 : WI g2 := wi_rs hCP.2.1 hWI (w_fX12_compare _ _ _ _ _ FW.refl _ _ hmm) (rm_compare _ _ _ hmm) (by decide)
      have hV2 : VI g2 := vi_rs hCP.2.1 hVI (w_fX12_compare _ _ _ _ _ FW.refl _ _ hmm) (rm_compare _ _ _ hmm) (by decide)
      have hD2 : CD g1 g2 := cd_rs hCP.2.1 hCD (w_fX11_compare_0 _ _ _ _ _ FW.refl _ _ hxx) (rsp_compare _ _ _ hxx) (w_fX12_compare _ _ _ _ _ FW.refl _ _ hmm) (rm_compare _ _ _ hmm) (by decide) (by decide)
      exact law_21 hst hN2 C0 hA C hi hi6 (sx := (g1, L1)) (sm := (g2, L2)) (by omega) (by omega) hxx hE hmm hP hD hS hl (fun bx2 a2 fJ2 H1 locs1 ls1 h1 h2 h3 h4 => nx bx2 a2 g1 g2 L1 L2 fJ2 H1 locs1 ls1 ⟨⟨⟨hC2, hD2⟩, hW2⟩, hV2⟩ h1 h2 h3 h4)
    by_cases c22 : v.toInt = 22
    · refine lv_tableIn (off := 993) (tgt := 1033) hx hb dL_law_40 (by omega) (by omega) (by rw [c22]; rfl) (by decide) ?_
      obtain ⟨rx, g1, L1, hxx, hq1⟩ := sX11_best_0 fu hfu  g L hCP.1
      obtain ⟨rm, g2, L2, hmm, hq2⟩ := sX12_best fu hfu  gm Lm hCP.2.1 hCP.2.2.1
      have hC2 : CP g1 g2 := cp_fr hCP hq1.1 hq2.1 hq2.2.1 (w_fX11_best_0 _ _ _ _ FW.refl _ _ hxx) (w_fX12_best _ _ _ _ FW.refl _ _ hmm) (by decide) (by decide)
      have hW2 : WI g2 := wi_rs hCP.2.1 hWI (w_fX12_best _ _ _ _ FW.refl _ _ hmm) (rm_best _ _ _ hmm) (by decide)
      have hV2 : VI g2 := vi_rs hCP.2.1 hVI (w_fX12_best _ _ _ _ FW.refl _ _ hmm) (rm_best _ _ _ hmm) (by decide)
      have hD2 : CD g1 g2 := cd_rs hCP.2.1 hCD (w_fX11_best_0 _ _ _ _ FW.refl _ _ hxx) (rsp_best _ _ _ hxx) (w_fX12_best _ _ _ _ FW.refl _ _ hmm) (rm_best _ _ _ hmm) (by decide) (by decide)
      exact law_22 hst hN2 C0 hA C hi hi6 (sx := (g1, L1)) (sm := (g2, L2)) (by omega) (by omega) hxx hmm hP hD hS hl (fun bx2 a2 fJ2 H1 locs1 ls1 h1 h2 h3 h4 => nx bx2 a2 g1 g2 L1 L2 fJ2 H1 locs1 ls1 ⟨⟨⟨hC2, hD2⟩, hW2⟩, hV2⟩ h1 h2 h3 h4)
    by_cases c23 : v.toInt = 23
    · refine lv_tableIn (off := 1006) (tgt := 1046) hx hb dL_law_40 (by omega) (by omega) (by rw [c23]; rfl) (by decide) ?_
      obtain ⟨rx, g1, L1, hxx, hq1⟩ := sX11_bell_0 fu hfu (xs (i + 1)) g L hCP.1
      obtain ⟨rm, g2, L2, hmm, hq2⟩ := sX12_bell fu hfu (xs (i + 1)) gm Lm hCP.2.1 hCP.2.2.1
      have hC2 : CP g1 g2 := cp_fr hCP hq1.1 hq2.1 hq2.2.1 (w_fX11_bell_0 _ _ _ _ _ FW.refl _ _ hxx) (w_fX12_bell _ _ _ _ _ FW.refl _ _ hmm) (by decide) (by decide)
      have hE : ∀ E, rx = .error E → E = "java/lang/IllegalArgumentException" := fun E h => by
        have q := hq1.2.2.1 E h
        exact q
      have hW2 : WI g2 := wi_rs hCP.2.1 hWI (w_fX12_bell _ _ _ _ _ FW.refl _ _ hmm) (rm_bell hfu _ _ _ hmm) (by decide)
      have hV2 : VI g2 := vi_rs hCP.2.1 hVI (w_fX12_bell _ _ _ _ _ FW.refl _ _ hmm) (rm_bell hfu _ _ _ hmm) (by decide)
      have hD2 : CD g1 g2 := cd_rs hCP.2.1 hCD (w_fX11_bell_0 _ _ _ _ _ FW.refl _ _ hxx) (rsp_bell _ _ _ hxx) (w_fX12_bell _ _ _ _ _ FW.refl _ _ hmm) (rm_bell hfu _ _ _ hmm) (by decide) (by decide)
      exact law_23 hst hN2 C0 hA C hi hi6 (sx := (g1, L1)) (sm := (g2, L2)) (by omega) (by omega) hxx hE hmm hP hD hS hl (fun bx2 a2 fJ2 H1 locs1 ls1 h1 h2 h3 h4 => nx bx2 a2 g1 g2 L1 L2 fJ2 H1 locs1 ls1 ⟨⟨⟨hC2, hD2⟩, hW2⟩, hV2⟩ h1 h2 h3 h4)
    by_cases c24 : v.toInt = 24
    · refine lv_tableIn (off := 1034) (tgt := 1074) hx hb dL_law_40 (by omega) (by omega) (by rw [c24]; rfl) (by decide) ?_
      obtain ⟨rx, g1, L1, hxx, hq1⟩ := sX11_see_0 fu hfu (xs (i + 1)) (xs (i + 2)) g L hCP.1
      obtain ⟨rm, g2, L2, hmm, hq2⟩ := sX12_see fu hfu (xs (i + 1)) (xs (i + 2)) gm Lm hCP.2.1 hCP.2.2.1
      obtain ⟨hC2, hcc⟩ := cp_see hCP hxx hmm hq1.1 hq2.1 hq2.2.1
      have hE : ∀ E, rx = .error E → E = "java/util/NoSuchElementException" := fun E h => by
        have q := hq1.2.2.1 E h
        exact q
      have hW2 : WI g2 := wi_fr hWI (w_fX12_see _ _ _ _ _ _ FW.refl _ _ hmm) (by decide)
      have hV2 : VI g2 := vi_see hCP.2.1 hVI _ _ _ hmm
      have hD2 : CD g1 g2 := cd_see hCP hCD hxx hmm
      exact law_24 hst hN2 C0 hA C hi hi6 (sx := (g1, L1)) (sm := (g2, L2)) (by omega) (by omega) hxx hE hmm hP hD hS hl (fun bx2 a2 fJ2 H1 locs1 ls1 h1 h2 h3 h4 => nx bx2 a2 g1 g2 L1 L2 fJ2 H1 locs1 ls1 ⟨⟨⟨hC2, hD2⟩, hW2⟩, hV2⟩ h1 h2 h3 h4)
    by_cases c25 : v.toInt = 25
    · refine lv_tableIn (off := 1074) (tgt := 1114) hx hb dL_law_40 (by omega) (by omega) (by rw [c25]; rfl) (by decide) ?_
      obtain ⟨rx, g1, L1, hxx, hq1⟩ := sX11_forget_0 fu hfu  g L hCP.1
      obtain ⟨rm, g2, L2, hmm, hq2⟩ := sX12_forget fu hfu  gm Lm hCP.2.1 hCP.2.2.1
      have hC2 : CP g1 g2 := cp_forget hCP hxx hmm hq1.1 hq2.1 hq2.2.1
      have hW2 : WI g2 := wi_fr hWI (w_fX12_forget _ _ _ _ FW.refl _ _ hmm) (by decide)
      have hV2 : VI g2 := vi_forget hVI _ _ _ hmm
      have hD2 : CD g1 g2 := cd_forget hCP hCD hxx hmm
      exact law_25 hst hN2 C0 hA C hi hi6 (sx := (g1, L1)) (sm := (g2, L2)) (by omega) (by omega) hxx hmm hP hD hS hl (fun bx2 a2 fJ2 H1 locs1 ls1 h1 h2 h3 h4 => nx bx2 a2 g1 g2 L1 L2 fJ2 H1 locs1 ls1 ⟨⟨⟨hC2, hD2⟩, hW2⟩, hV2⟩ h1 h2 h3 h4)
    by_cases c26 : v.toInt = 26
    · refine lv_tableIn (off := 1085) (tgt := 1125) hx hb dL_law_40 (by omega) (by omega) (by rw [c26]; rfl) (by decide) ?_
      obtain ⟨rx, g1, L1, hxx, hq1⟩ := sX11_fits_0 fu hfu (xs (i + 1)) g L hCP.1
      obtain ⟨rm, g2, L2, hmm, hq2⟩ := sX12_fits fu hfu (xs (i + 1)) gm Lm hCP.2.1 hCP.2.2.1
      have hC2 : CP g1 g2 := cp_fr hCP hq1.1 hq2.1 hq2.2.1 (w_fX11_fits_0 _ _ _ _ _ FW.refl _ _ hxx) (w_fX12_fits _ _ _ _ _ FW.refl _ _ hmm) (by decide) (by decide)
      have hE : ∀ E, rx = .error E → E = "java/util/NoSuchElementException" := fun E h => by
        have q := hq1.2.2.1 E h
        exact q
      have hW2 : WI g2 := wi_rs hCP.2.1 hWI (w_fX12_fits _ _ _ _ _ FW.refl _ _ hmm) (rm_fits _ _ _ hmm) (by decide)
      have hV2 : VI g2 := vi_rs hCP.2.1 hVI (w_fX12_fits _ _ _ _ _ FW.refl _ _ hmm) (rm_fits _ _ _ hmm) (by decide)
      have hD2 : CD g1 g2 := cd_rs hCP.2.1 hCD (w_fX11_fits_0 _ _ _ _ _ FW.refl _ _ hxx) (rsp_fits _ _ _ hxx) (w_fX12_fits _ _ _ _ _ FW.refl _ _ hmm) (rm_fits _ _ _ hmm) (by decide) (by decide)
      exact law_26 hst hN2 C0 hA C hi hi6 (sx := (g1, L1)) (sm := (g2, L2)) (by omega) (by omega) hxx hE hmm hP hD hS hl (fun bx2 a2 fJ2 H1 locs1 ls1 h1 h2 h3 h4 => nx bx2 a2 g1 g2 L1 L2 fJ2 H1 locs1 ls1 ⟨⟨⟨hC2, hD2⟩, hW2⟩, hV2⟩ h1 h2 h3 h4)
    by_cases c27 : v.toInt = 27
    · refine lv_tableIn (off := 1113) (tgt := 1153) hx hb dL_law_40 (by omega) (by omega) (by rw [c27]; rfl) (by decide) ?_
      obtain ⟨rx, g1, L1, hxx, hq1⟩ := sX11_streams_0 fu hfu  g L hCP.1
      obtain ⟨rm, g2, L2, hmm, hq2⟩ := sX12_streams fu hfu  gm Lm hCP.2.1 hCP.2.2.1
      have hC2 : CP g1 g2 := cp_fr hCP hq1.1 hq2.1 hq2.2.1 (w_fX11_streams_0 _ _ _ _ FW.refl _ _ hxx) (w_fX12_streams _ _ _ _ FW.refl _ _ hmm) (by decide) (by decide)
      have hW2 : WI g2 := wi_fr hWI (w_fX12_streams _ _ _ _ FW.refl _ _ hmm) (by decide)
      have hV2 : VI g2 := vi_fr hVI (w_fX12_streams _ _ _ _ FW.refl _ _ hmm) (by decide)
      have hD2 : CD g1 g2 := cd_fr hCP.2.1 hCD (w_fX11_streams_0 _ _ _ _ FW.refl _ _ hxx) (w_fX12_streams _ _ _ _ FW.refl _ _ hmm) (by decide) (by decide)
      exact law_27 hst hN2 C0 hA C hi hi6 (sx := (g1, L1)) (sm := (g2, L2)) (by omega) (by omega) hxx hmm hP hD hS hl (fun bx2 a2 fJ2 H1 locs1 ls1 h1 h2 h3 h4 => nx bx2 a2 g1 g2 L1 L2 fJ2 H1 locs1 ls1 ⟨⟨⟨hC2, hD2⟩, hW2⟩, hV2⟩ h1 h2 h3 h4)
    by_cases c28 : v.toInt = 28
    · refine lv_tableIn (off := 1126) (tgt := 1166) hx hb dL_law_40 (by omega) (by omega) (by rw [c28]; rfl) (by decide) ?_
      obtain ⟨rx, g1, L1, hxx, hq1⟩ := sX11_term_0 fu hfu (xs (i + 1)) (xs (i + 2)) (xs (i + 3)) (xs (i + 4)) g L hCP.1
      obtain ⟨rm, g2, L2, hmm, hq2⟩ := sX12_term fu hfu (xs (i + 1)) (xs (i + 2)) (xs (i + 3)) (xs (i + 4)) gm Lm hCP.2.1 hCP.2.2.1
      have hC2 : CP g1 g2 := cp_fr hCP hq1.1 hq2.1 hq2.2.1 (w_fX11_term_0 _ _ _ _ _ _ _ _ FW.refl _ _ hxx) (w_fX12_term _ _ _ _ _ _ _ _ FW.refl _ _ hmm) (by decide) (by decide)
      have hE : ∀ E, rx = .error E → E = "java/util/NoSuchElementException" ∨ E = "java/lang/IllegalArgumentException" := fun E h => by
        have q := hq1.2.2.1 E h
        first | exact q | exact q.symm | exact Or.inl q | exact Or.inr q
      have hW2 : WI g2 := wi_rs hCP.2.1 hWI (w_fX12_term _ _ _ _ _ _ _ _ FW.refl _ _ hmm) (rm_term hCD.2.2.2.2.2.2.1 _ _ _ hmm) (by decide)
      have hV2 : VI g2 := vi_rs hCP.2.1 hVI (w_fX12_term _ _ _ _ _ _ _ _ FW.refl _ _ hmm) (rm_term hCD.2.2.2.2.2.2.1 _ _ _ hmm) (by decide)
      have hD2 : CD g1 g2 := cd_rs hCP.2.1 hCD (w_fX11_term_0 _ _ _ _ _ _ _ _ FW.refl _ _ hxx) (rsp_term hCD.2.2.2.2.1 _ _ _ hxx) (w_fX12_term _ _ _ _ _ _ _ _ FW.refl _ _ hmm) (rm_term hCD.2.2.2.2.2.2.1 _ _ _ hmm) (by decide) (by decide)
      exact law_28 hst hN2 C0 hA C hi hi6 (sx := (g1, L1)) (sm := (g2, L2)) (by omega) (by omega) hxx hE hmm hP hD hS hl (fun bx2 a2 fJ2 H1 locs1 ls1 h1 h2 h3 h4 => nx bx2 a2 g1 g2 L1 L2 fJ2 H1 locs1 ls1 ⟨⟨⟨hC2, hD2⟩, hW2⟩, hV2⟩ h1 h2 h3 h4)
    by_cases c29 : v.toInt = 29
    · refine lv_tableIn (off := 1190) (tgt := 1230) hx hb dL_law_40 (by omega) (by omega) (by rw [c29]; rfl) (by decide) ?_
      obtain ⟨rx, g1, L1, hxx, hq1⟩ := sX11_on_0 fu hfu (xs (i + 1)) (xs (i + 2)) g L hCP.1
      obtain ⟨rm, g2, L2, hmm, hq2⟩ := sX12_on fu hfu (xs (i + 1)) (xs (i + 2)) gm Lm hCP.2.1 hCP.2.2.1
      have hC2 : CP g1 g2 := cp_fr hCP hq1.1 hq2.1 hq2.2.1 (w_fX11_on_0 _ _ _ _ _ _ FW.refl _ _ hxx) (w_fX12_on _ _ _ _ _ _ FW.refl _ _ hmm) (by decide) (by decide)
      have hE : ∀ E, rx = .error E → E = "java/util/NoSuchElementException" ∨ E = "java/lang/IllegalArgumentException" := fun E h => by
        have q := hq1.2.2.1 E h
        first | exact q | exact q.symm | exact Or.inl q | exact Or.inr q
      have hW2 : WI g2 := wi_fr hWI (w_fX12_on _ _ _ _ _ _ FW.refl _ _ hmm) (by decide)
      have hV2 : VI g2 := vi_fr hVI (w_fX12_on _ _ _ _ _ _ FW.refl _ _ hmm) (by decide)
      have hD2 : CD g1 g2 := cd_fr hCP.2.1 hCD (w_fX11_on_0 _ _ _ _ _ _ FW.refl _ _ hxx) (w_fX12_on _ _ _ _ _ _ FW.refl _ _ hmm) (by decide) (by decide)
      exact law_29 hst hN2 C0 hA C hi hi6 (sx := (g1, L1)) (sm := (g2, L2)) (by omega) (by omega) hxx hE hmm hP hD hS hl (fun bx2 a2 fJ2 H1 locs1 ls1 h1 h2 h3 h4 => nx bx2 a2 g1 g2 L1 L2 fJ2 H1 locs1 ls1 ⟨⟨⟨hC2, hD2⟩, hW2⟩, hV2⟩ h1 h2 h3 h4)
    by_cases c30 : v.toInt = 30
    · refine lv_tableIn (off := 1230) (tgt := 1270) hx hb dL_law_40 (by omega) (by omega) (by rw [c30]; rfl) (by decide) ?_
      obtain ⟨rx, g1, L1, hxx, hq1⟩ := sX11_clash_0 fu hfu (xs (i + 1)) g L hCP.1
      obtain ⟨rm, g2, L2, hmm, hq2⟩ := sX12_clash fu hfu (xs (i + 1)) gm Lm hCP.2.1 hCP.2.2.1
      have hC2 : CP g1 g2 := cp_fr hCP hq1.1 hq2.1 hq2.2.1 (w_fX11_clash_0 _ _ _ _ _ FW.refl _ _ hxx) (w_fX12_clash _ _ _ _ _ FW.refl _ _ hmm) (by decide) (by decide)
      have hE : ∀ E, rx = .error E → E = "java/util/NoSuchElementException" := fun E h => by
        have q := hq1.2.2.1 E h
        exact q
      have hW2 : WI g2 := wi_fr hWI (w_fX12_clash _ _ _ _ _ FW.refl _ _ hmm) (by decide)
      have hV2 : VI g2 := vi_fr hVI (w_fX12_clash _ _ _ _ _ FW.refl _ _ hmm) (by decide)
      have hD2 : CD g1 g2 := cd_fr hCP.2.1 hCD (w_fX11_clash_0 _ _ _ _ _ FW.refl _ _ hxx) (w_fX12_clash _ _ _ _ _ FW.refl _ _ hmm) (by decide) (by decide)
      exact law_30 hst hN2 C0 hA C hi hi6 (sx := (g1, L1)) (sm := (g2, L2)) (by omega) (by omega) hxx hE hmm hP hD hS hl (fun bx2 a2 fJ2 H1 locs1 ls1 h1 h2 h3 h4 => nx bx2 a2 g1 g2 L1 L2 fJ2 H1 locs1 ls1 ⟨⟨⟨hC2, hD2⟩, hW2⟩, hV2⟩ h1 h2 h3 h4)
    by_cases c31 : v.toInt = 31
    · refine lv_tableIn (off := 1258) (tgt := 1298) hx hb dL_law_40 (by omega) (by omega) (by rw [c31]; rfl) (by decide) ?_
      obtain ⟨rx, g1, L1, hxx, hq1⟩ := sX11_busiest_0 fu hfu (xs (i + 1)) g L hCP.1
      obtain ⟨rm, g2, L2, hmm, hq2⟩ := sX12_busiest fu hfu (xs (i + 1)) gm Lm hCP.2.1 hCP.2.2.1
      have hC2 : CP g1 g2 := cp_fr hCP hq1.1 hq2.1 hq2.2.1 (w_fX11_busiest_0 _ _ _ _ _ FW.refl _ _ hxx) (w_fX12_busiest _ _ _ _ _ FW.refl _ _ hmm) (by decide) (by decide)
      have hE : ∀ E, rx = .error E → E = "java/util/NoSuchElementException" := fun E h => by
        have q := hq1.2.2.1 E h
        exact q
      have hW2 : WI g2 := wi_fr hWI (w_fX12_busiest _ _ _ _ _ FW.refl _ _ hmm) (by decide)
      have hV2 : VI g2 := vi_fr hVI (w_fX12_busiest _ _ _ _ _ FW.refl _ _ hmm) (by decide)
      have hD2 : CD g1 g2 := cd_fr hCP.2.1 hCD (w_fX11_busiest_0 _ _ _ _ _ FW.refl _ _ hxx) (w_fX12_busiest _ _ _ _ _ FW.refl _ _ hmm) (by decide) (by decide)
      exact law_31 hst hN2 C0 hA C hi hi6 (sx := (g1, L1)) (sm := (g2, L2)) (by omega) (by omega) hxx hE hmm hP hD hS hl (fun bx2 a2 fJ2 H1 locs1 ls1 h1 h2 h3 h4 => nx bx2 a2 g1 g2 L1 L2 fJ2 H1 locs1 ls1 ⟨⟨⟨hC2, hD2⟩, hW2⟩, hV2⟩ h1 h2 h3 h4)
    by_cases c32 : v.toInt = 32
    · refine lv_tableIn (off := 1286) (tgt := 1326) hx hb dL_law_40 (by omega) (by omega) (by rw [c32]; rfl) (by decide) ?_
      obtain ⟨rx, g1, L1, hxx, hq1⟩ := sX11_idle_0 fu hfu  g L hCP.1
      obtain ⟨rm, g2, L2, hmm, hq2⟩ := sX12_idle fu hfu  gm Lm hCP.2.1 hCP.2.2.1
      have hC2 : CP g1 g2 := cp_fr hCP hq1.1 hq2.1 hq2.2.1 (w_fX11_idle_0 _ _ _ _ FW.refl _ _ hxx) (w_fX12_idle _ _ _ _ FW.refl _ _ hmm) (by decide) (by decide)
      have hW2 : WI g2 := wi_fr hWI (w_fX12_idle _ _ _ _ FW.refl _ _ hmm) (by decide)
      have hV2 : VI g2 := vi_fr hVI (w_fX12_idle _ _ _ _ FW.refl _ _ hmm) (by decide)
      have hD2 : CD g1 g2 := cd_fr hCP.2.1 hCD (w_fX11_idle_0 _ _ _ _ FW.refl _ _ hxx) (w_fX12_idle _ _ _ _ FW.refl _ _ hmm) (by decide) (by decide)
      exact law_32 hst hN2 C0 hA C hi hi6 (sx := (g1, L1)) (sm := (g2, L2)) (by omega) (by omega) hxx hmm hP hD hS hl (fun bx2 a2 fJ2 H1 locs1 ls1 h1 h2 h3 h4 => nx bx2 a2 g1 g2 L1 L2 fJ2 H1 locs1 ls1 ⟨⟨⟨hC2, hD2⟩, hW2⟩, hV2⟩ h1 h2 h3 h4)
    by_cases c33 : v.toInt = 33
    · refine lv_tableIn (off := 1299) (tgt := 1339) hx hb dL_law_40 (by omega) (by omega) (by rw [c33]; rfl) (by decide) ?_
      obtain ⟨rx, g1, L1, hxx, hq1⟩ := sX11_shift_0 fu hfu (xs (i + 1)) (xs (i + 2)) g L hCP.1
      obtain ⟨rm, g2, L2, hmm, hq2⟩ := sX12_shift fu hfu (xs (i + 1)) (xs (i + 2)) gm Lm hCP.2.1 hCP.2.2.1
      have hC2 : CP g1 g2 := cp_fr hCP hq1.1 hq2.1 hq2.2.1 (w_fX11_shift_0 _ _ _ _ _ _ FW.refl _ _ hxx) (w_fX12_shift _ _ _ _ _ _ FW.refl _ _ hmm) (by decide) (by decide)
      have hE : ∀ E, rx = .error E → E = "java/util/NoSuchElementException" := fun E h => by
        have q := hq1.2.2.1 E h
        exact q
      have hW2 : WI g2 := wi_rs hCP.2.1 hWI (w_fX12_shift _ _ _ _ _ _ FW.refl _ _ hmm) (rm_shift _ _ _ hmm) (by decide)
      have hV2 : VI g2 := vi_rs hCP.2.1 hVI (w_fX12_shift _ _ _ _ _ _ FW.refl _ _ hmm) (rm_shift _ _ _ hmm) (by decide)
      have hD2 : CD g1 g2 := cd_rs hCP.2.1 hCD (w_fX11_shift_0 _ _ _ _ _ _ FW.refl _ _ hxx) (rsp_shift _ _ _ hxx) (w_fX12_shift _ _ _ _ _ _ FW.refl _ _ hmm) (rm_shift _ _ _ hmm) (by decide) (by decide)
      exact law_33 hst hN2 C0 hA C hi hi6 (sx := (g1, L1)) (sm := (g2, L2)) (by omega) (by omega) hxx hE hmm hP hD hS hl (fun bx2 a2 fJ2 H1 locs1 ls1 h1 h2 h3 h4 => nx bx2 a2 g1 g2 L1 L2 fJ2 H1 locs1 ls1 ⟨⟨⟨hC2, hD2⟩, hW2⟩, hV2⟩ h1 h2 h3 h4)
    by_cases c34 : v.toInt = 34
    · refine lv_tableIn (off := 1339) (tgt := 1379) hx hb dL_law_40 (by omega) (by omega) (by rw [c34]; rfl) (by decide) ?_
      obtain ⟨rx, g1, L1, hxx, hq1⟩ := sX11_harm_0 fu hfu (xs (i + 1)) (xs (i + 2)) g L hCP.1
      obtain ⟨rm, g2, L2, hmm, hq2⟩ := sX12_harm fu hfu (xs (i + 1)) (xs (i + 2)) gm Lm hCP.2.1 hCP.2.2.1
      have hC2 : CP g1 g2 := cp_fr hCP hq1.1 hq2.1 hq2.2.1 (w_fX11_harm_0 _ _ _ _ _ _ FW.refl _ _ hxx) (w_fX12_harm _ _ _ _ _ _ FW.refl _ _ hmm) (by decide) (by decide)
      have hE : ∀ E, rx = .error E → E = "java/util/NoSuchElementException" := fun E h => by
        have q := hq1.2.2.1 E h
        exact q
      have hW2 : WI g2 := wi_rs hCP.2.1 hWI (w_fX12_harm _ _ _ _ _ _ FW.refl _ _ hmm) (rm_harm _ _ _ hmm) (by decide)
      have hV2 : VI g2 := vi_rs hCP.2.1 hVI (w_fX12_harm _ _ _ _ _ _ FW.refl _ _ hmm) (rm_harm _ _ _ hmm) (by decide)
      have hD2 : CD g1 g2 := cd_rs hCP.2.1 hCD (w_fX11_harm_0 _ _ _ _ _ _ FW.refl _ _ hxx) (rsp_harm _ _ _ hxx) (w_fX12_harm _ _ _ _ _ _ FW.refl _ _ hmm) (rm_harm _ _ _ hmm) (by decide) (by decide)
      exact law_34 hst hN2 C0 hA C hi hi6 (sx := (g1, L1)) (sm := (g2, L2)) (by omega) (by omega) hxx hE hmm hP hD hS hl (fun bx2 a2 fJ2 H1 locs1 ls1 h1 h2 h3 h4 => nx bx2 a2 g1 g2 L1 L2 fJ2 H1 locs1 ls1 ⟨⟨⟨hC2, hD2⟩, hW2⟩, hV2⟩ h1 h2 h3 h4)
    by_cases c35 : v.toInt = 35
    · refine lv_tableIn (off := 1379) (tgt := 1419) hx hb dL_law_40 (by omega) (by omega) (by rw [c35]; rfl) (by decide) ?_
      obtain ⟨rx, g1, L1, hxx, hq1⟩ := sX11_pair_0 fu hfu (xs (i + 1)) g L hCP.1
      obtain ⟨rm, g2, L2, hmm, hq2⟩ := sX12_pair fu hfu (xs (i + 1)) gm Lm hCP.2.1 hCP.2.2.1
      have hC2 : CP g1 g2 := cp_fr hCP hq1.1 hq2.1 hq2.2.1 (w_fX11_pair_0 _ _ _ _ _ FW.refl _ _ hxx) (w_fX12_pair _ _ _ _ _ FW.refl _ _ hmm) (by decide) (by decide)
      have hE : ∀ E, rx = .error E → E = "java/util/NoSuchElementException" := fun E h => by
        have q := hq1.2.2.1 E h
        exact q
      have hW2 : WI g2 := wi_rs hCP.2.1 hWI (w_fX12_pair _ _ _ _ _ FW.refl _ _ hmm) (rm_pair hfu _ _ _ hmm) (by decide)
      have hV2 : VI g2 := vi_rs hCP.2.1 hVI (w_fX12_pair _ _ _ _ _ FW.refl _ _ hmm) (rm_pair hfu _ _ _ hmm) (by decide)
      have hD2 : CD g1 g2 := cd_rs hCP.2.1 hCD (w_fX11_pair_0 _ _ _ _ _ FW.refl _ _ hxx) (rsp_pair _ _ _ hxx) (w_fX12_pair _ _ _ _ _ FW.refl _ _ hmm) (rm_pair hfu _ _ _ hmm) (by decide) (by decide)
      exact law_35 hst hN2 C0 hA C hi hi6 (sx := (g1, L1)) (sm := (g2, L2)) (by omega) (by omega) hxx hE hmm hP hD hS hl (fun bx2 a2 fJ2 H1 locs1 ls1 h1 h2 h3 h4 => nx bx2 a2 g1 g2 L1 L2 fJ2 H1 locs1 ls1 ⟨⟨⟨hC2, hD2⟩, hW2⟩, hV2⟩ h1 h2 h3 h4)
    by_cases c36 : v.toInt = 36
    · refine lv_tableIn (off := 1407) (tgt := 1447) hx hb dL_law_40 (by omega) (by omega) (by rw [c36]; rfl) (by decide) ?_
      obtain ⟨rx, g1, L1, hxx, hq1⟩ := sX11_pause_0 fu hfu (xs (i + 1)) (xs (i + 2)) g L hCP.1
      obtain ⟨rm, g2, L2, hmm, hq2⟩ := sX12_pause fu hfu (xs (i + 1)) (xs (i + 2)) gm Lm hCP.2.1 hCP.2.2.1
      have hC2 : CP g1 g2 := cp_fr hCP hq1.1 hq2.1 hq2.2.1 (w_fX11_pause_0 _ _ _ _ _ _ FW.refl _ _ hxx) (w_fX12_pause _ _ _ _ _ _ FW.refl _ _ hmm) (by decide) (by decide)
      have hE : ∀ E, rx = .error E → E = "java/util/NoSuchElementException" ∨ E = "java/lang/IllegalArgumentException" := fun E h => by
        have q := hq1.2.2.1 E h
        first | exact q | exact q.symm | exact Or.inl q | exact Or.inr q
      have hW2 : WI g2 := wi_rs hCP.2.1 hWI (w_fX12_pause _ _ _ _ _ _ FW.refl _ _ hmm) (rm_pause hfu _ _ _ hmm) (by decide)
      have hV2 : VI g2 := vi_rs hCP.2.1 hVI (w_fX12_pause _ _ _ _ _ _ FW.refl _ _ hmm) (rm_pause hfu _ _ _ hmm) (by decide)
      have hD2 : CD g1 g2 := cd_rs hCP.2.1 hCD (w_fX11_pause_0 _ _ _ _ _ _ FW.refl _ _ hxx) (rsp_pause _ _ _ hxx) (w_fX12_pause _ _ _ _ _ _ FW.refl _ _ hmm) (rm_pause hfu _ _ _ hmm) (by decide) (by decide)
      exact law_36 hst hN2 C0 hA C hi hi6 (sx := (g1, L1)) (sm := (g2, L2)) (by omega) (by omega) hxx hE hmm hP hD hS hl (fun bx2 a2 fJ2 H1 locs1 ls1 h1 h2 h3 h4 => nx bx2 a2 g1 g2 L1 L2 fJ2 H1 locs1 ls1 ⟨⟨⟨hC2, hD2⟩, hW2⟩, hV2⟩ h1 h2 h3 h4)
    by_cases c37 : v.toInt = 37
    · refine lv_tableIn (off := 1447) (tgt := 1487) hx hb dL_law_40 (by omega) (by omega) (by rw [c37]; rfl) (by decide) ?_
      obtain ⟨rx, g1, L1, hxx, hq1⟩ := sX11_image_0 fu hfu  g L hCP.1
      obtain ⟨rm, g2, L2, hmm, hq2⟩ := sX12_image fu hfu  gm Lm hCP.2.1 hCP.2.2.1
      have hC2 : CP g1 g2 := cp_image hCP hxx hmm hq1.1 hq2.1 hq2.2.1
      have hW2 : WI g2 := wi_image hfu hCP.2.1 hWI _ _ _ hmm
      have hV2 : VI g2 := vi_image hfu hCP.2.1 hVI _ _ _ hmm
      have hD2 : CD g1 g2 := cd_image hfu hCP hCD hxx hmm
      exact law_37 hst hN2 C0 hA C hi hi6 (sx := (g1, L1)) (sm := (g2, L2)) (by omega) (by omega) hxx hmm hP hD hS hl (fun bx2 a2 fJ2 H1 locs1 ls1 h1 h2 h3 h4 => nx bx2 a2 g1 g2 L1 L2 fJ2 H1 locs1 ls1 ⟨⟨⟨hC2, hD2⟩, hW2⟩, hV2⟩ h1 h2 h3 h4)
    by_cases c38 : v.toInt = 38
    · refine lv_tableIn (off := 1458) (tgt := 1498) hx hb dL_law_40 (by omega) (by omega) (by rw [c38]; rfl) (by decide) ?_
      obtain ⟨rx, g1, L1, hxx, hq1⟩ := sX11_restore_0 fu hfu  g L hCP.1
      obtain ⟨rm, g2, L2, hmm, hq2⟩ := sX12_restore fu hfu  gm Lm hCP.2.1 hCP.2.2.1
      obtain ⟨hC2, hcc⟩ := cp_restore hCP hxx hmm hq1.1 hq2.1 hq2.2.1
      have hW2 : WI g2 := wi_restore hfu hCP.2.1 hWI _ _ _ hmm
      have hV2 : VI g2 := vi_restore hfu hCP.2.1 hVI _ _ _ hmm
      have hD2 : CD g1 g2 := cd_restore hfu hCP hCD hxx hmm
      exact law_38 hst hN2 C0 hA C hi hi6 (sx := (g1, L1)) (sm := (g2, L2)) (by omega) (by omega) hxx hmm hP hD hS hl (fun bx2 a2 fJ2 H1 locs1 ls1 h1 h2 h3 h4 => nx bx2 a2 g1 g2 L1 L2 fJ2 H1 locs1 ls1 ⟨⟨⟨hC2, hD2⟩, hW2⟩, hV2⟩ h1 h2 h3 h4)
    refine lv_tableOut (tgt := 1511) hx hb dL_law_40 (by omega) (by decide) ?_
    refine W.widen (k := cN + 10) (n := sN + 60) (by omega) (by omega) ?_
    exact nx bx a g gm L Lm fJ H locs ls hCS hP hD hS hl
