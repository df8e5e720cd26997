/-! ===== the coupling ===== -/
/-- what the class's house comes to -/
def HX (g0 : gT) (r : Except Nat Unit) (g1 : gT) : Prop := match r with
  | .error p => (g1 0 14).toInt = (p : Int) ∧ g1 0 15 = g0 0 15
  | .ok _ => (g1 0 14).toInt = -1 ∧ g1 0 15 = 0
theorem l_house {fu : Nat} (hfu : 1180591620717411303424 ≤ fu) {b : Nat → Int32} {n : Nat} {p1 : Int32} {g0 : gT} {L0 : lT} (hI : zI XT g0) (hn : p1.toInt = (n : Int)) (h13 : p1.toInt ≤ (g0 0 13).toInt) (hb : ∀ j, j < n → g0 14 j = b j) : Ex (fX11_house_0 fu p1 g0 L0) (fun (r : Except String Int32) g1 L1 => HX g0 (hoS b n 702 (0, 0, false, false) (sk b n 0)) g1) := by
  have q13 := hI 0 13 0 700 rfl
  unfold fX11_house_0
  refine Ex.ite (fun c => by have := icc_lt (m := p1.toInt) (n := 0) rfl (by decide) c; omega) (fun _ => ?_)
  refine Ex.ite (fun _ => ?_) (fun c => by have := icc_nle (m := p1.toInt) (n := (g0 0 13).toInt) rfl rfl c; omega)
  refine Ex.sti (hI.upd (lo := 0) (hi := 700) rfl (by decide) (by decide)) (fun g3 g3e i3 => ?_)
  have b3 : ∀ j, j < n → g3 14 j = b j := fun j hj => by rw [g3e]; exact hb j hj
  have k15 : g3 0 15 = g0 0 15 := by rw [g3e]; rfl
  refine Ex.cb (l_read hfu i3 hn (by omega) b3) (fun _ g5 L5 hq => ?_)
  obtain ⟨h1, h2, h3⟩ := hq
  have e0 : g5 0 = g3 0 := h1 0 (by decide) (by decide)
  generalize hoS b n 702 (0, 0, false, false) (sk b n 0) = R at h3 ⊢
  refine Ex.sti (h2.updN rfl) (fun g8 g8e i8 => ?_)
  have x14 : g8 0 14 = g5 5 8 := by rw [g8e]; exact upd2_at
  have x15 : g8 0 15 = g0 0 15 := by rw [g8e]; show g5 0 15 = _; rw [e0]; exact k15
  have x57 : g8 5 7 = g5 5 7 := by rw [g8e]; rfl
  rw [x57]
  cases R with
  | error p =>
    have h3 : (g5 5 7).toInt ≠ 0 ∧ (g5 5 8).toInt = (p : Int) := h3
    refine Ex.ite (fun c => absurd (icc_eq (m := (g5 5 7).toInt) (n := 0) rfl (by decide) c) h3.1) (fun _ => ?_)
    refine Ex.ck (by decide) (by decide) (Ex.ck (by decide) (by decide) ?_)
    refine e_st (fun g18 g18e => Ex.ret ⟨?_, ?_⟩)
    · rw [g18e]; show (g8 0 14).toInt = _; rw [x14]; exact h3.2
    · rw [g18e]; exact x15
  | ok u =>
    have h3 : (g5 5 7).toInt = 0 ∧ (g5 5 8).toInt = -1 := h3
    refine Ex.ite (fun _ => ?_) (fun c => absurd h3.1 (icc_neq (m := (g5 5 7).toInt) (n := 0) rfl (by decide) c))
    refine Ex.swp ?_
    have hI2 : zI XT (fun k => g8 (sg k)) := fun k j lo hi h => i8 (sg k) j lo hi ((xt_sg k j).trans h)
    obtain ⟨x12, g13, L14, e12, -⟩ := sX3_start_6_1 fu hfu _ (fun k => L5 (sg k)) hI2
    have y14 : g13 0 14 = g8 0 14 := w_fX3_start_6_1 _ _ _ _ FW.refl _ _ e12 0 14 (by decide) (by decide)
    refine Ex.cb (P := fun (_ : Unit) gz Lz => gz 0 14 = g8 0 14) ⟨x12, g13, L14, e12, y14⟩ (fun _ g13 L14 y14 => ?_)
    refine e_st (fun g16 g16e => ?_)
    refine e_st (fun g17 g17e => Ex.ret ⟨?_, ?_⟩)
    · rw [g17e, g16e]; show (g13 0 14).toInt = -1; rw [y14, x14]; exact h3.2
    · rw [g17e, g16e]; rfl
/-- the class and the reference, side by side -/
def CP (g gm : gT) : Prop := zI XT g ∧ zI MT gm ∧ mJ gm ∧ TP g gm ∧ g 0 14 = gm 0 20 ∧ g 0 15 = gm 0 81
abbrev okX (A : List (Nat × Nat)) (B : List Nat) : Prop := 0 ∉ B ∧ 14 ∉ B ∧ 14 ∉ A.map Prod.fst ∧ (0, 13) ∉ A ∧ (0, 14) ∉ A ∧ (0, 15) ∉ A
abbrev okM (A : List (Nat × Nat)) (B : List Nat) : Prop := 0 ∉ B ∧ 13 ∉ B ∧ 13 ∉ A.map Prod.fst ∧ (0, 18) ∉ A ∧ (0, 20) ∉ A ∧ (0, 81) ∉ A
theorem cp_fr {A A' : List (Nat × Nat)} {B B' : List Nat} {g gm g1 g2 : gT} (h : CP g gm) (hI1 : zI XT g1) (hI2 : zI MT g2) (hJ2 : mJ g2) (f1 : FW A B g g1) (f2 : FW A' B' gm g2) (o1 : okX A B) (o2 : okM A' B') : CP g1 g2 := by
  obtain ⟨-, -, -, ⟨t1, t2⟩, h5, h6⟩ := h
  have e18 : g2 0 18 = gm 0 18 := f2 0 18 o2.1 o2.2.2.2.1
  refine ⟨hI1, hI2, hJ2, ⟨?_, fun j hj => ?_⟩, ?_, ?_⟩
  · rw [f1 0 13 o1.1 o1.2.2.2.1, e18]; exact t1
  · rw [e18] at hj
    rw [f1.c o1.2.1 o1.2.2.1, f2.c o2.2.1 o2.2.2.1]; exact t2 j hj
  · rw [f1 0 14 o1.1 o1.2.2.2.2.1, f2 0 20 o2.1 o2.2.2.2.2.1]; exact h5
  · rw [f1 0 15 o1.1 o1.2.2.2.2.2, f2 0 81 o2.1 o2.2.2.2.2.2]; exact h6
theorem cp_feed {fu : Nat} (hfu : 1180591620717411303424 ≤ fu) {g gm : gT} (L Lm : lT) (p1 p2 p3 p4 p5 : Int32) (h : CP g gm) : ∃ r g1 L1 g2 L2, fX11_feed_0 fu p1 p2 p3 p4 p5 g L = some (r, (g1, L1)) ∧ fX12_feed fu p1 p2 p3 p4 p5 gm Lm = some (r, (g2, L2)) ∧ CP g1 g2 := by
  obtain ⟨r, g1, g2, e1, e2, t⟩ := feed_tp hfu (L := L) (Lm := Lm) (p1 := p1) (p2 := p2) (p3 := p3) (p4 := p4) (p5 := p5) h.2.1 h.2.2.2.1
  have f1 : FW _ _ g g1 := w_fX11_feed_0 _ _ _ _ _ _ _ _ _ FW.refl _ _ e1
  have f2 : FW _ _ gm g2 := w_fX12_feed _ _ _ _ _ _ _ _ _ FW.refl _ _ e2
  obtain ⟨r', g1', L1', e1', hI1, -⟩ := sX11_feed_0 fu hfu p1 p2 p3 p4 p5 g L h.1
  obtain ⟨r'', g2', L2', e2', hI2, hJ2, -⟩ := sX12_feed fu hfu p1 p2 p3 p4 p5 gm Lm h.2.1 h.2.2.1
  rw [e1] at e1'
  rw [e2] at e2'
  cases e1'
  cases e2'
  refine ⟨r, g1, L, g2, Lm, e1, e2, hI1, hI2, hJ2, t, ?_, ?_⟩
  · rw [f1 0 14 (by decide) (by decide), f2 0 20 (by decide) (by decide)]; exact h.2.2.2.2.1
  · rw [f1 0 15 (by decide) (by decide), f2 0 81 (by decide) (by decide)]; exact h.2.2.2.2.2
/-- the reference refuses a length -/
theorem m_refused {fu : Nat} {p1 : Int32} {g0 : gT} {L0 : lT} (h : p1.toInt < 0 ∨ (g0 0 18).toInt < p1.toInt) : fX12_house fu p1 g0 L0 = some (0, (upd2 (upd2 g0 0 0 0) 0 0 1, L0)) := by
  have no : fX12_house_p22 fu p1 (upd2 g0 0 0 0) L0 = some (0, (upd2 (upd2 g0 0 0 0) 0 0 1, L0)) := by
    unfold fX12_house_p22 fX12_house_p23
    have e : fX12_right fu 0 1 (upd2 g0 0 0 0) L0 = some (0, (upd2 (upd2 g0 0 0 0) 0 0 1, L0)) := by
      unfold fX12_right
      rw [if_pos upd2_at, if_pos rfl]
      show fX12_right_p16 fu (upd2 (upd2 g0 0 0 0) 0 0 1) L0 = _
      unfold fX12_right_p16 fX12_right_p28
      rw [ckb0, ckb1, if_neg (by rw [upd2_at]; decide)]
    exact q_cb e (q_t rfl rfl)
  unfold fX12_house
  refine q_sti ?_
  by_cases c1 : p1 < 0
  · exact q_t c1 no
  · refine q_f c1 (q_t ?_ no)
    have c1 := icc_nlt (m := p1.toInt) (n := 0) rfl (by decide) c1
    show g0 0 18 < p1
    exact Int32.lt_iff_toInt_lt.mpr (by omega)
theorem cp_house {fu : Nat} (hfu : 1180591620717411303424 ≤ fu) {g gm : gT} (L Lm : lT) (p1 : Int32) (h : CP g gm) : ∃ rx g1 L1 rm g2 L2, fX11_house_0 fu p1 g L = some (rx, (g1, L1)) ∧ fX12_house fu p1 gm Lm = some (rm, (g2, L2)) ∧ (∀ E, rx = .error E → E = "java/lang/IllegalArgumentException") ∧ CP g1 g2 := by
  obtain ⟨hI, hI2, hJ2, hT, h5, h6⟩ := h
  have q18 := hI2 0 18 0 700 rfl
  have e13 : (g 0 13).toInt = (gm 0 18).toInt := by rw [hT.1]
  by_cases c : 0 ≤ p1.toInt ∧ p1.toInt ≤ (gm 0 18).toInt
  · obtain ⟨n, hn⟩ : ∃ n : Nat, p1.toInt = (n : Int) := ⟨p1.toInt.toNat, by omega⟩
    obtain ⟨rx, g1, L1, e1, ⟨z1, z2, z3⟩, z4⟩ := (sX11_house_0 fu hfu p1 g L hI).and (l_house hfu (b := gm 13) (n := n) (L0 := L) hI hn (by omega) (fun j hj => hT.2 j (by omega)))
    obtain ⟨rm, g2, L2, e2, ⟨y1, y2, y3, -⟩, y4⟩ := (sX12_house fu hfu p1 gm Lm hI2 hJ2).and (t_house hfu (b := gm 13) (n := n) (L0 := Lm) hI2 hn (by omega) (fun j hj => rfl))
    have y3 := y3 c.1 c.2
    have z13 : (g1 0 13).toInt = 0 := by
      cases rx with
      | error E => have := (z2 E rfl).2.2; omega
      | ok v => exact (z3 v rfl).1
    refine ⟨rx, g1, L1, rm, g2, L2, e1, e2, fun E hE => (z2 E hE).1, z1, y1, y2, ⟨ic_eq.mpr (by rw [z13, y3]), fun j hj => by omega⟩, ?_, ?_⟩
    · revert y4 z4
      generalize hoS (gm 13) n 702 (0, 0, false, false) (sk (gm 13) n 0) = R
      intro z4 y4
      cases R with
      | error p => exact ic_eq.mpr (z4.1.trans y4.1.symm)
      | ok u => exact ic_eq.mpr (z4.1.trans y4.1.symm)
    · revert y4 z4
      generalize hoS (gm 13) n 702 (0, 0, false, false) (sk (gm 13) n 0) = R
      intro z4 y4
      cases R with
      | error p => exact z4.2.trans (h6.trans y4.2.symm)
      | ok u => exact z4.2.trans y4.2.symm
  · have c' : p1.toInt < 0 ∨ (gm 0 18).toInt < p1.toInt := by omega
    refine ⟨.error "java/lang/IllegalArgumentException", g, L, 0, _, Lm, ?_, m_refused c', fun E hE => by cases hE; rfl, hI, (hI2.updN rfl).updN rfl, (hJ2.upd rfl).upd rfl, hT, h5, h6⟩
    unfold fX11_house_0 fX11_house_0_p12
    by_cases c1 : p1 < 0
    · exact if_pos c1
    · rw [if_neg c1]
      have c1 := icc_nlt (m := p1.toInt) (n := 0) rfl (by decide) c1
      exact if_neg (fun hh => by have := icc_le (m := p1.toInt) (n := (g 0 13).toInt) rfl rfl hh; omega)
theorem cp_image {fu : Nat} (hfu : 1180591620717411303424 ≤ fu) {g gm : gT} (L Lm : lT) (h : CP g gm) : ∃ rx g1 L1 rm g2 L2, fX11_image_0 fu g L = some (rx, (g1, L1)) ∧ fX12_image fu gm Lm = some (rm, (g2, L2)) ∧ CP g1 g2 := by
  obtain ⟨rx, g1, L1, e1, hq1⟩ := sX11_image_0 fu hfu g L h.1
  obtain ⟨rm, g2, L2, e2, hq2⟩ := sX12_image fu hfu gm Lm h.2.1 h.2.2.1
  have f1 : FW _ _ g g1 := w_fX11_image_0 _ _ _ _ FW.refl _ _ e1
  have f2 : FW _ _ gm g2 := w_fX12_image _ _ _ _ FW.refl _ _ e2
  have a1 : g1 0 15 = 1 := by
    have e := e1
    unfold fX11_image_0 at e
    obtain ⟨x, ga, La, -, e⟩ := cb_some e
    have e : some ((), (upd2 ga 0 15 1, La)) = some (rx, (g1, L1)) := e
    cases e
    exact upd2_at
  have a2 : g2 0 81 = 1 := by
    have e := e2
    unfold fX12_image at e
    unfold sti at e
    obtain ⟨x, ga, La, ea, e⟩ := cb_some e
    obtain ⟨x', gb, Lb, eb, e⟩ := cb_some e
    obtain ⟨x'', gc, Lc, ec, e⟩ := cb_some e
    cases e
    have z1 : g2 0 81 = gb 0 81 := w_fX12_copies_43_50 _ _ _ _ FW.refl _ _ ec 0 81 (by decide) (by decide)
    have z2 : gb 0 81 = ga 0 81 := w_fX12_copies_36_49 _ _ _ _ FW.refl _ _ eb 0 81 (by decide) (by decide)
    have z3 : ga 0 81 = _ := w_fX12_copies_12_48 _ _ _ _ FW.refl _ _ ea 0 81 (by decide) (by decide)
    rw [z1, z2, z3]
    rfl
  obtain ⟨-, -, -, ⟨t1, t2⟩, h5, h6⟩ := h
  have e18 : g2 0 18 = gm 0 18 := f2 0 18 (by decide) (by decide)
  refine ⟨rx, g1, L1, rm, g2, L2, e1, e2, hq1.1, hq2.1, hq2.2.1, ⟨?_, fun j hj => ?_⟩, ?_, a1.trans a2.symm⟩
  · rw [f1 0 13 (by decide) (by decide), e18]; exact t1
  · rw [e18] at hj
    rw [f1.c (by decide) (by decide), f2.c (by decide) (by decide)]; exact t2 j hj
  · rw [f1 0 14 (by decide) (by decide), f2 0 20 (by decide) (by decide)]; exact h5
theorem cp_restore {fu : Nat} {g gm g1 g2 : gT} {L Lm L1 L2 : lT} {rx rm : Int32} (h : CP g gm) (e1 : fX11_restore_0 fu g L = some (rx, (g1, L1))) (e2 : fX12_restore fu gm Lm = some (rm, (g2, L2))) : rx = rm := by
  have h6 := h.2.2.2.2.2
  unfold fX11_restore_0 at e1
  unfold fX12_restore at e2
  have e2 : (if gm 0 81 = 0 then _ else _) = some (rm, (g2, L2)) := e2
  by_cases c : gm 0 81 = 0
  · rw [h6, if_pos c, ckb0] at e1
    rw [if_pos c, ckb0] at e2
    cases e1; cases e2; rfl
  · rw [h6, if_neg c] at e1
    rw [if_neg c] at e2
    obtain ⟨x, ga, La, -, e1⟩ := cb_some e1
    rw [ckb1] at e1
    cases e1
    unfold sti at e2
    obtain ⟨x, gb, Lb, -, e2⟩ := cb_some e2
    obtain ⟨x, gc, Lc, -, e2⟩ := cb_some e2
    obtain ⟨x, gd, Ld, -, e2⟩ := cb_some e2
    rw [ckb1] at e2
    cases e2
    rfl
theorem cp_fault {fu : Nat} {g gm g1 g2 : gT} {L Lm L1 L2 : lT} {rx rm : Int32} (h : CP g gm) (e1 : fX11_fault_0 fu g L = some (rx, (g1, L1))) (e2 : fX12_fault fu gm Lm = some (rm, (g2, L2))) : rx = rm := by
  have h5 := h.2.2.2.2.1
  unfold fX11_fault_0 at e1
  unfold fX12_fault at e2
  cases e1; cases e2
  exact h5
