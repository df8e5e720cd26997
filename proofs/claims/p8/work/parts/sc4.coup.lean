/-! ===== the coupling ===== -/
/-- how many there are -/
def CC (g gm : gT) : Prop := g 1 2 = gm 0 1 ∧ g 3 3 = gm 0 2 ∧ g 6 9 = gm 0 62 ∧ g 6 10 = gm 0 73 ∧ (¬ gm 0 81 = 0 → g 7 9 = gm 0 83 ∧ g 7 10 = gm 0 84)
/-- the first bounds of the rules -/
def BZ (g : gT) : Prop := g 20 0 = 0 ∧ g 23 0 = 0
/-- the class and the reference, side by side -/
def CP (g gm : gT) : Prop := zI XT g ∧ zI MT gm ∧ mJ gm ∧ TP g gm ∧ g 0 14 = gm 0 20 ∧ g 0 15 = gm 0 81 ∧ CC g gm ∧ BZ g
/-- what is written leaves the cells fc and the fields ff alone -/
def okw (fc : List Nat) (ff : List (Nat × Nat)) (A : List (Nat × Nat)) (B : List Nat) : Bool := fc.all (fun k => !B.contains k && A.all (fun p => p.1 != k)) && ff.all (fun p => !B.contains p.1 && !A.contains p)
theorem okw_c {fc : List Nat} {ff : List (Nat × Nat)} {A : List (Nat × Nat)} {B : List Nat} {g g1 : gT} {k : Nat} (o : okw fc ff A B = true) (f : FW A B g g1) (hk : k ∈ fc) : g1 k = g k := by
  have o := List.all_eq_true.mp (Bool.and_eq_true_iff.mp o).1 k hk
  have o := Bool.and_eq_true_iff.mp o
  refine f.c (fun hB => ?_) (fun hA => ?_)
  · have := o.1
    rw [List.contains_iff_mem.mpr hB] at this
    exact nomatch this
  · obtain ⟨p, hp, e⟩ := List.mem_map.mp hA
    have := List.all_eq_true.mp o.2 p hp
    rw [e] at this
    simp at this
theorem okw_f {fc : List Nat} {ff : List (Nat × Nat)} {A : List (Nat × Nat)} {B : List Nat} {g g1 : gT} {k j : Nat} (o : okw fc ff A B = true) (f : FW A B g g1) (hk : (k, j) ∈ ff) : g1 k j = g k j := by
  have o := List.all_eq_true.mp (Bool.and_eq_true_iff.mp o).2 (k, j) hk
  have o := Bool.and_eq_true_iff.mp o
  refine f k j (fun hB => ?_) (fun hA => ?_)
  · have := o.1
    rw [List.contains_iff_mem.mpr hB] at this
    exact nomatch this
  · have := o.2
    rw [List.contains_iff_mem.mpr hA] at this
    exact nomatch this
abbrev okX0 (A : List (Nat × Nat)) (B : List Nat) : Prop := okw [14] [(0, 13), (0, 14), (0, 15), (1, 2), (3, 3), (7, 9), (7, 10), (20, 0), (23, 0)] A B = true
abbrev okM0 (A : List (Nat × Nat)) (B : List Nat) : Prop := okw [13] [(0, 18), (0, 20), (0, 81), (0, 1), (0, 2), (0, 83), (0, 84)] A B = true
abbrev okX (A : List (Nat × Nat)) (B : List Nat) : Prop := okw [14] [(0, 13), (0, 14), (0, 15), (1, 2), (3, 3), (7, 9), (7, 10), (20, 0), (23, 0), (6, 9), (6, 10)] A B = true
abbrev okM (A : List (Nat × Nat)) (B : List Nat) : Prop := okw [13] [(0, 18), (0, 20), (0, 81), (0, 1), (0, 2), (0, 83), (0, 84), (0, 62), (0, 73)] A B = true
theorem okw_mo {fc : List Nat} {ff ff' : List (Nat × Nat)} {A : List (Nat × Nat)} {B : List Nat} (o : okw fc ff A B = true) (h : ∀ p ∈ ff', p ∈ ff) : okw fc ff' A B = true := by
  have o := Bool.and_eq_true_iff.mp o
  exact Bool.and_eq_true_iff.mpr ⟨o.1, List.all_eq_true.mpr (fun p hp => List.all_eq_true.mp o.2 p (h p hp))⟩
theorem cp_fr0 {A A' : List (Nat × Nat)} {B B' : List Nat} {g gm g1 g2 : gT} (h : CP g gm) (hI1 : zI XT g1) (hI2 : zI MT g2) (hJ2 : mJ g2) (f1 : FW A B g g1) (f2 : FW A' B' gm g2) (o1 : okX0 A B) (o2 : okM0 A' B') (c9 : g1 6 9 = g2 0 62) (c10 : g1 6 10 = g2 0 73) : CP g1 g2 := by
  obtain ⟨-, -, -, ⟨t1, t2⟩, h5, h6, ⟨k1, k2, -, -, k5⟩, z1, z2⟩ := h
  have e18 : g2 0 18 = gm 0 18 := okw_f o2 f2 (by decide)
  have e81 : g2 0 81 = gm 0 81 := okw_f o2 f2 (by decide)
  refine ⟨hI1, hI2, hJ2, ⟨?_, fun j hj => ?_⟩, ?_, ?_, ⟨?_, ?_, c9, c10, ?_⟩, (okw_f o1 f1 (by decide)).trans z1, (okw_f o1 f1 (by decide)).trans z2⟩
  · rw [okw_f (k := 0) (j := 13) o1 f1 (by decide), e18]; exact t1
  · rw [e18] at hj
    rw [okw_c (k := 14) o1 f1 (by decide), okw_c (k := 13) o2 f2 (by decide)]; exact t2 j hj
  · rw [okw_f (k := 0) (j := 14) o1 f1 (by decide), okw_f (k := 0) (j := 20) o2 f2 (by decide)]; exact h5
  · rw [okw_f (k := 0) (j := 15) o1 f1 (by decide), e81]; exact h6
  · rw [okw_f (k := 1) (j := 2) o1 f1 (by decide), okw_f (k := 0) (j := 1) o2 f2 (by decide)]; exact k1
  · rw [okw_f (k := 3) (j := 3) o1 f1 (by decide), okw_f (k := 0) (j := 2) o2 f2 (by decide)]; exact k2
  · rw [e81, okw_f (k := 7) (j := 9) o1 f1 (by decide), okw_f (k := 7) (j := 10) o1 f1 (by decide), okw_f (k := 0) (j := 83) o2 f2 (by decide), okw_f (k := 0) (j := 84) o2 f2 (by decide)]; exact k5
theorem cp_fr {A A' : List (Nat × Nat)} {B B' : List Nat} {g gm g1 g2 : gT} (h : CP g gm) (hI1 : zI XT g1) (hI2 : zI MT g2) (hJ2 : mJ g2) (f1 : FW A B g g1) (f2 : FW A' B' gm g2) (o1 : okX A B) (o2 : okM A' B') : CP g1 g2 := by
  have h9 := h.2.2.2.2.2.2.1.2.2.1
  have h10 := h.2.2.2.2.2.2.1.2.2.2.1
  refine cp_fr0 h hI1 hI2 hJ2 f1 f2 (okw_mo o1 (by decide)) (okw_mo o2 (by decide)) ?_ ?_
  · rw [okw_f (k := 6) (j := 9) o1 f1 (by decide), okw_f (k := 0) (j := 62) o2 f2 (by decide)]; exact h9
  · rw [okw_f (k := 6) (j := 10) o1 f1 (by decide), okw_f (k := 0) (j := 73) o2 f2 (by decide)]; exact h10
theorem cp_feed {fu : Nat} (hfu : 1180591620717411303424 ≤ fu) {g gm : gT} (L Lm : lT) (p1 p2 p3 p4 p5 : Int32) (h : CP g gm) : ∃ r g1 L1 g2 L2, fX11_feed_0 fu p1 p2 p3 p4 p5 g L = some (r, (g1, L1)) ∧ fX12_feed fu p1 p2 p3 p4 p5 gm Lm = some (r, (g2, L2)) ∧ CP g1 g2 := by
  obtain ⟨r, g1, g2, e1, e2, t⟩ := feed_tp hfu (L := L) (Lm := Lm) (p1 := p1) (p2 := p2) (p3 := p3) (p4 := p4) (p5 := p5) h.2.1 h.2.2.2.1
  have f1 : FW _ _ g g1 := w_fX11_feed_0 _ _ _ _ _ _ _ _ _ FW.refl _ _ e1
  have f2 : FW _ _ gm g2 := w_fX12_feed _ _ _ _ _ _ _ _ _ FW.refl _ _ e2
  obtain ⟨r', g1', L1', e1', hI1, -⟩ := sX11_feed_0 fu hfu p1 p2 p3 p4 p5 g L h.1
  obtain ⟨r'', g2', L2', e2', hI2, hJ2, -⟩ := sX12_feed fu hfu p1 p2 p3 p4 p5 gm Lm h.2.1 h.2.2.1
  rw [e1] at e1'
  rw [e2] at e2'
  cases e1'
  cases e2'
  obtain ⟨-, -, -, -, h5, h6, ⟨k1, k2, k3, k4, k5⟩, z1, z2⟩ := h
  have e81 : g2 0 81 = gm 0 81 := f2 0 81 (by decide) (by decide)
  refine ⟨r, g1, L, g2, Lm, e1, e2, hI1, hI2, hJ2, t, ?_, ?_, ⟨?_, ?_, ?_, ?_, ?_⟩, (f1 20 0 (by decide) (by decide)).trans z1, (f1 23 0 (by decide) (by decide)).trans z2⟩
  · rw [f1 0 14 (by decide) (by decide), f2 0 20 (by decide) (by decide)]; exact h5
  · rw [f1 0 15 (by decide) (by decide), e81]; exact h6
  · rw [f1 1 2 (by decide) (by decide), f2 0 1 (by decide) (by decide)]; exact k1
  · rw [f1 3 3 (by decide) (by decide), f2 0 2 (by decide) (by decide)]; exact k2
  · rw [f1 6 9 (by decide) (by decide), f2 0 62 (by decide) (by decide)]; exact k3
  · rw [f1 6 10 (by decide) (by decide), f2 0 73 (by decide) (by decide)]; exact k4
  · rw [e81, f1 7 9 (by decide) (by decide), f1 7 10 (by decide) (by decide), f2 0 83 (by decide) (by decide), f2 0 84 (by decide) (by decide)]; exact k5
/-- the reference refuses a length -/
theorem m_refused {fu : Nat} {p1 : Int32} {g0 : gT} {L0 : lT} (h : p1.toInt < 0 ∨ (g0 0 18).toInt < p1.toInt) : fX12_house fu p1 g0 L0 = some (0, (upd2 (upd2 g0 0 0 0) 0 0 1, L0)) := by
  have no : fX12_house_p22 fu p1 (upd2 g0 0 0 0) L0 = some (0, (upd2 (upd2 g0 0 0 0) 0 0 1, L0)) := by
    unfold fX12_house_p22 fX12_house_p23
    exact q_cb (right0 upd2_at (by decide)) (q_t rfl rfl)
  unfold fX12_house
  refine q_sti ?_
  by_cases c1 : p1 < 0
  · exact q_t c1 no
  · refine q_f c1 (q_t ?_ no)
    have c1 := icc_nlt (m := p1.toInt) (n := 0) rfl (by decide) c1
    show g0 0 18 < p1
    exact Int32.lt_iff_toInt_lt.mpr (by omega)
theorem cp_house {fu : Nat} (hfu : 1180591620717411303424 ≤ fu) {g gm : gT} (L Lm : lT) (p1 : Int32) (h : CP g gm) : ∃ rx g1 L1 rm g2 L2, fX11_house_0 fu p1 g L = some (rx, (g1, L1)) ∧ fX12_house fu p1 gm Lm = some (rm, (g2, L2)) ∧ (∀ E, rx = .error E → E = "java/lang/IllegalArgumentException") ∧ CP g1 g2 := by
  obtain ⟨hI, hI2, hJ2, hT, h5, h6, ⟨k1, k2, k3, k4, k5⟩, z20, z23⟩ := h
  have q18 := hI2 0 18 0 700 rfl
  have e13 : (g 0 13).toInt = (gm 0 18).toInt := by rw [hT.1]
  by_cases c : 0 ≤ p1.toInt ∧ p1.toInt ≤ (gm 0 18).toInt
  · obtain ⟨n, hn⟩ : ∃ n : Nat, p1.toInt = (n : Int) := ⟨p1.toInt.toNat, by omega⟩
    obtain ⟨rx, g1, L1, e1, ⟨z1, z2, z3⟩, z4⟩ := (sX11_house_0 fu hfu p1 g L hI).and (l_house hfu (b := gm 13) (n := n) (L0 := L) hI hn (by omega) (fun j hj => hT.2 j (by omega)) z23)
    obtain ⟨rm, g2, L2, e2, ⟨y1, y2, y3, -⟩, y4⟩ := (sX12_house fu hfu p1 gm Lm hI2 hJ2).and (t_house hfu (b := gm 13) (n := n) (L0 := Lm) hI2 hn (by omega) (fun j hj => rfl))
    have y3 := y3 c.1 c.2
    have z13 : (g1 0 13).toInt = 0 := by
      cases rx with
      | error E => have := (z2 E rfl).2.2; omega
      | ok v => exact (z3 v rfl).1
    refine ⟨rx, g1, L1, rm, g2, L2, e1, e2, fun E hE => (z2 E hE).1, z1, y1, y2, ⟨ic_eq.mpr (by rw [z13, y3]), fun j hj => by omega⟩, ?_⟩
    clear z1 z2 z3 z13 y1 y2 y3 e1 e2
    revert y4 z4
    generalize hoS (gm 13) n 702 (0, 0, false, false) (sk (gm 13) n 0) = R
    generalize hoD (gm 13) n 702 (0, 0, false, false) D0 (sk (gm 13) n 0) = DD
    intro z4 y4
    cases R with
    | error p =>
      obtain ⟨z1, z2, z3, -, z9⟩ := z4
      obtain ⟨y1, y2, -⟩ := y4
      refine ⟨ic_eq.mpr (z1.trans y1.symm), ?_, ⟨?_, ?_, ?_, ?_, ?_⟩, ?_, z9⟩
      rotate_right
      · rw [z2 20 (by decide) (by decide)]; exact z20
      · rw [z3 15 (by decide), y2.1 81 (by decide)]; exact h6
      · rw [z2 1 (by decide) (by decide), y2.1 1 (by decide)]; exact k1
      · rw [z2 3 (by decide) (by decide), y2.1 2 (by decide)]; exact k2
      · rw [z2 6 (by decide) (by decide), y2.1 62 (by decide)]; exact k3
      · rw [z2 6 (by decide) (by decide), y2.1 73 (by decide)]; exact k4
      · rw [z2 7 (by decide) (by decide), y2.1 81 (by decide), y2.1 83 (by decide), y2.1 84 (by decide)]; exact k5
    | ok u =>
      obtain ⟨z1, z2, z3, z4, z5, z6, z7, z8, z9, -, -, z12, z13, -⟩ := z4
      obtain ⟨y1, y2, y3, y4, y5, y6, y7, y8, y9, -⟩ := y4
      exact ⟨ic_eq.mpr (z1.trans y1.symm), z2.trans y2.symm, ⟨ic_eq.mpr (z3.trans y3.symm), ic_eq.mpr (z4.trans y4.symm), z5.trans y6.symm, z6.trans y7.symm, fun h => absurd y2 h⟩, z12, z13.trans z20⟩
  · have c' : p1.toInt < 0 ∨ (gm 0 18).toInt < p1.toInt := by omega
    refine ⟨.error "java/lang/IllegalArgumentException", g, L, 0, _, Lm, ?_, m_refused c', fun E hE => by cases hE; rfl, hI, (hI2.updN rfl).updN rfl, (hJ2.upd rfl).upd rfl, hT, h5, h6, ⟨k1, k2, k3, k4, k5⟩, z20, z23⟩
    unfold fX11_house_0 fX11_house_0_p12
    by_cases c1 : p1 < 0
    · exact if_pos c1
    · rw [if_neg c1]
      have c1 := icc_nlt (m := p1.toInt) (n := 0) rfl (by decide) c1
      exact if_neg (fun hh => by have := icc_le (m := p1.toInt) (n := (g 0 13).toInt) rfl rfl hh; omega)
theorem cp_image {fu : Nat} {g gm g1 g2 : gT} {L Lm L1 L2 : lT} {rx rm : Unit} (h : CP g gm) (e1 : fX11_image_0 fu g L = some (rx, (g1, L1))) (e2 : fX12_image fu gm Lm = some (rm, (g2, L2))) (hI1 : zI XT g1) (hI2 : zI MT g2) (hJ2 : mJ g2) : CP g1 g2 := by
  have f1 : FW _ _ g g1 := w_fX11_image_0 _ _ _ _ FW.refl _ _ e1
  have f2 : FW _ _ gm g2 := w_fX12_image _ _ _ _ FW.refl _ _ e2
  have a1 : g1 0 15 = 1 ∧ g1 7 9 = g 6 9 ∧ g1 7 10 = g 6 10 := by
    have e := e1
    unfold fX11_image_0 at e
    obtain ⟨x, ga, La, ea, e⟩ := cb_some e
    have e : some ((), (upd2 ga 0 15 1, La)) = some (rx, (g1, L1)) := e
    cases e
    have ea : some _ = some ((), (ga, L1)) := ea
    cases ea
    exact ⟨upd2_at, rfl, rfl⟩
  have a2 : g2 0 81 = 1 ∧ g2 0 83 = gm 0 62 ∧ g2 0 84 = gm 0 73 := by
    have e := e2
    unfold fX12_image at e
    unfold sti at e
    obtain ⟨x, ga, La, ea, e⟩ := cb_some e
    obtain ⟨x', gb, Lb, eb, e⟩ := cb_some e
    obtain ⟨x'', gc, Lc, ec, e⟩ := cb_some e
    cases e
    have z1 : ∀ j, g2 0 j = gb 0 j := fun j => w_fX12_copies_43_50 _ _ _ _ FW.refl _ _ ec 0 j (by decide) (List.not_mem_nil)
    have z2 : ∀ j, gb 0 j = ga 0 j := fun j => w_fX12_copies_36_49 _ _ _ _ FW.refl _ _ eb 0 j (by decide) (List.not_mem_nil)
    have z3 : ∀ j, ga 0 j = _ := fun j => w_fX12_copies_12_48 _ _ _ _ FW.refl _ _ ea 0 j (by decide) (List.not_mem_nil)
    rw [z1, z1, z1, z2, z2, z2, z3, z3, z3]
    exact ⟨rfl, rfl, rfl⟩
  obtain ⟨-, -, -, ⟨t1, t2⟩, h5, h6, ⟨k1, k2, k3, k4, k5⟩, z1, z2⟩ := h
  have e18 : g2 0 18 = gm 0 18 := f2 0 18 (by decide) (by decide)
  refine ⟨hI1, hI2, hJ2, ⟨?_, fun j hj => ?_⟩, ?_, a1.1.trans a2.1.symm, ⟨?_, ?_, ?_, ?_, fun _ => ⟨?_, ?_⟩⟩, (f1 20 0 (by decide) (by decide)).trans z1, (f1 23 0 (by decide) (by decide)).trans z2⟩
  · rw [f1 0 13 (by decide) (by decide), e18]; exact t1
  · rw [e18] at hj
    rw [f1.c (by decide) (by decide), f2.c (by decide) (by decide)]; exact t2 j hj
  · rw [f1 0 14 (by decide) (by decide), f2 0 20 (by decide) (by decide)]; exact h5
  · rw [f1 1 2 (by decide) (by decide), f2 0 1 (by decide) (by decide)]; exact k1
  · rw [f1 3 3 (by decide) (by decide), f2 0 2 (by decide) (by decide)]; exact k2
  · rw [f1 6 9 (by decide) (by decide), f2 0 62 (by decide) (by decide)]; exact k3
  · rw [f1 6 10 (by decide) (by decide), f2 0 73 (by decide) (by decide)]; exact k4
  · rw [a1.2.1, a2.2.1]; exact k3
  · rw [a1.2.2, a2.2.2]; exact k4
theorem cp_restore {fu : Nat} {g gm g1 g2 : gT} {L Lm L1 L2 : lT} {rx rm : Int32} (h : CP g gm) (e1 : fX11_restore_0 fu g L = some (rx, (g1, L1))) (e2 : fX12_restore fu gm Lm = some (rm, (g2, L2))) (hI1 : zI XT g1) (hI2 : zI MT g2) (hJ2 : mJ g2) : CP g1 g2 ∧ rx = rm := by
  have f1 : FW _ _ g g1 := w_fX11_restore_0 _ _ _ _ FW.refl _ _ e1
  have f2 : FW _ _ gm g2 := w_fX12_restore _ _ _ _ FW.refl _ _ e2
  have h6 := h.2.2.2.2.2.1
  obtain ⟨-, -, k3, k4, k5⟩ := h.2.2.2.2.2.2.1
  unfold fX11_restore_0 at e1
  unfold fX12_restore at e2
  have e2 : (if gm 0 81 = 0 then _ else _) = some (rm, (g2, L2)) := e2
  by_cases c : gm 0 81 = 0
  · rw [h6, if_pos c, ckb0] at e1
    rw [if_pos c, ckb0] at e2
    cases e1; cases e2
    exact ⟨cp_fr0 h hI1 hI2 hJ2 f1 f2 (by decide) (by decide) k3 k4, rfl⟩
  · rw [h6, if_neg c] at e1
    rw [if_neg c] at e2
    obtain ⟨x, ga, La, ea, e1⟩ := cb_some e1
    rw [ckb1] at e1
    cases e1
    have ea : some _ = some (x, (g1, L1)) := ea
    cases ea
    unfold sti at e2
    obtain ⟨x, gb, Lb, eb, e2⟩ := cb_some e2
    obtain ⟨x, gc, Lc, ec, e2⟩ := cb_some e2
    obtain ⟨x, gd, Ld, ed, e2⟩ := cb_some e2
    rw [ckb1] at e2
    cases e2
    have z1 : ∀ j, g2 0 j = gc 0 j := fun j => w_fX12_copies_50_43 _ _ _ _ FW.refl _ _ ed 0 j (by decide) (List.not_mem_nil)
    have z2 : ∀ j, gc 0 j = gb 0 j := fun j => w_fX12_copies_49_36 _ _ _ _ FW.refl _ _ ec 0 j (by decide) (List.not_mem_nil)
    have z3 : ∀ j, gb 0 j = _ := fun j => w_fX12_copies_48_12 _ _ _ _ FW.refl _ _ eb 0 j (by decide) (List.not_mem_nil)
    refine ⟨cp_fr0 h hI1 hI2 hJ2 f1 f2 (by decide) (by decide) ?_ ?_, rfl⟩
    · rw [z1, z2, z3]; exact (k5 c).1
    · rw [z1, z2, z3]; exact (k5 c).2
theorem cp_fault {fu : Nat} {g gm g1 g2 : gT} {L Lm L1 L2 : lT} {rx rm : Int32} (h : CP g gm) (e1 : fX11_fault_0 fu g L = some (rx, (g1, L1))) (e2 : fX12_fault fu gm Lm = some (rm, (g2, L2))) : rx = rm := by
  have h5 := h.2.2.2.2.1
  unfold fX11_fault_0 at e1
  unfold fX12_fault at e2
  cases e1; cases e2
  exact h5
/-- rules -/
theorem obey_x {fu : Nat} {p : Int32} {g : gT} {L : lT} (hr : 0 ≤ (g 6 9).toInt ∧ (g 6 9).toInt ≤ 40) : Pc (fX11_obey_0 fu p g L) (fun r g1 _ => (-1 ≤ p.toInt ∧ p.toInt < (g 3 3).toInt → r = 1 ∧ (g1 6 9).toInt = bmp (g 6 9).toInt) ∧ (¬ (-1 ≤ p.toInt ∧ p.toInt < (g 3 3).toInt) → r = 0 ∧ g1 6 9 = g 6 9)) := by
  have e : ∃ x : Int32, fX11_isRuleOrNone_0 fu p g L = some (x, (g, L)) ∧ ((x = 1 ∧ (-1 ≤ p.toInt ∧ p.toInt < (g 3 3).toInt)) ∨ (x = 0 ∧ ¬ (-1 ≤ p.toInt ∧ p.toInt < (g 3 3).toInt))) := by
    unfold fX11_isRuleOrNone_0 fX11_isRuleOrNone_0_p23 fX11_isRuleOrNone_0_p24
    rw [ckb0, ckb1]
    by_cases c1 : p < (-1)
    · rw [if_pos c1]
      have c1 := icc_lt (m := p.toInt) (n := -1) rfl (by decide) c1
      exact ⟨0, rfl, Or.inr ⟨rfl, fun h => by omega⟩⟩
    · rw [if_neg c1]
      have c1 := icc_nlt (m := p.toInt) (n := -1) rfl (by decide) c1
      by_cases c2 : g 3 3 ≤ p
      · rw [if_pos c2]
        have c2 := icc_le (m := (g 3 3).toInt) (n := p.toInt) rfl rfl c2
        exact ⟨0, rfl, Or.inr ⟨rfl, fun h => by omega⟩⟩
      · rw [if_neg c2]
        have c2 := icc_nle (m := (g 3 3).toInt) (n := p.toInt) rfl rfl c2
        exact ⟨1, rfl, Or.inl ⟨rfl, by omega, by omega⟩⟩
  obtain ⟨x, e, hx⟩ := e
  unfold fX11_obey_0
  refine pc_cb (P := fun x' g' L' => x' = x ∧ g' = g ∧ L' = L) (fun x' g' L' e' => by rw [e] at e'; cases e'; exact ⟨rfl, rfl, rfl⟩) (fun x' g' L' hh => ?_)
  obtain ⟨rfl, rfl, rfl⟩ := hh
  rcases hx with ⟨rfl, hx⟩ | ⟨rfl, hx⟩
  · rw [if_neg (by decide)]
    refine pc_cb (keepAct_n hr.1 hr.2) (fun _ ga La ha => pc_st (fun gb eb => pc_ckb (pc_some ⟨fun _ => ⟨rfl, ?_⟩, fun h => absurd hx h⟩)))
    rw [eb]; exact ha
  · rw [if_pos rfl]
    refine pc_ck (fun _ _ => pc_ck (fun _ _ => pc_st (fun ga ea => pc_ckb (pc_some ⟨fun h => absurd h hx, fun _ => ⟨rfl, ?_⟩⟩))))
    rw [ea]; rfl
theorem obey_m {fu : Nat} {p : Int32} {g : gT} {L : lT} (hr : 0 ≤ (g 0 62).toInt ∧ (g 0 62).toInt ≤ 40) : Pc (fX12_obey fu p g L) (fun r g1 _ => (-1 ≤ p.toInt ∧ p.toInt < (g 0 2).toInt → r = 1 ∧ (g1 0 62).toInt = bmp (g 0 62).toInt) ∧ (¬ (-1 ≤ p.toInt ∧ p.toInt < (g 0 2).toInt) → r = 0 ∧ g1 0 62 = g 0 62)) := by
  unfold fX12_obey
  refine pc_st (fun ga ea => ?_)
  have a2 : ga 0 2 = g 0 2 := by rw [ea]; rfl
  have a62 : ga 0 62 = g 0 62 := by rw [ea]; rfl
  have P18 : ¬ (-1 ≤ p.toInt ∧ p.toInt < (g 0 2).toInt) → Pc (fX12_obey_p18 fu ga L) (fun r g1 _ => (-1 ≤ p.toInt ∧ p.toInt < (g 0 2).toInt → r = 1 ∧ (g1 0 62).toInt = bmp (g 0 62).toInt) ∧ (¬ (-1 ≤ p.toInt ∧ p.toInt < (g 0 2).toInt) → r = 0 ∧ g1 0 62 = g 0 62)) := by
    intro hn
    unfold fX12_obey_p18 fX12_obey_p31
    refine pc_cb (P := fun x g' L' => x = -1 ∧ g' 0 62 = g 0 62) ?_ (fun x gb Lb hb => ?_)
    · unfold fX12_refuses
      exact pc_ck (fun _ _ => pc_ck (fun _ _ => pc_st (fun gc ec => pc_some ⟨rfl, by rw [ec]; exact a62⟩)))
    · rw [hb.1, if_pos (by decide)]
      exact pc_ckb (pc_some ⟨fun h => absurd h hn, fun _ => ⟨rfl, hb.2⟩⟩)
  rw [a2]
  refine pc_ite (fun c => P18 (fun h => ?_)) (fun c1 => ?_)
  · have c := icc_lt (m := p.toInt) (n := -1) rfl (by decide) c
    omega
  have c1 := icc_nlt (m := p.toInt) (n := -1) rfl (by decide) c1
  refine pc_ite (fun c2 => ?_) (fun c2 => P18 (fun h => ?_))
  · have c2 := icc_lt (m := p.toInt) (n := (g 0 2).toInt) rfl rfl c2
    refine pc_cb (keeps_n (by rw [a62]; exact hr.1) (by rw [a62]; exact hr.2)) (fun _ gb Lb hb => pc_st (fun gc ec => pc_ckb (pc_some ⟨fun _ => ⟨rfl, ?_⟩, fun h => absurd ⟨c1, c2⟩ h⟩)))
    rw [ec]
    show (gb 0 62).toInt = _
    rw [hb, a62]
  · have c2 := icc_nlt (m := p.toInt) (n := (g 0 2).toInt) rfl rfl c2
    omega
theorem cp_obey {fu : Nat} {p : Int32} {g gm g1 g2 : gT} {L Lm L1 L2 : lT} {rx rm : Int32} (h : CP g gm) (e1 : fX11_obey_0 fu p g L = some (rx, (g1, L1))) (e2 : fX12_obey fu p gm Lm = some (rm, (g2, L2))) (hI1 : zI XT g1) (hI2 : zI MT g2) (hJ2 : mJ g2) : CP g1 g2 ∧ rx = rm := by
  have f1 : FW _ _ g g1 := w_fX11_obey_0 _ _ _ _ _ FW.refl _ _ e1
  have f2 : FW _ _ gm g2 := w_fX12_obey _ _ _ _ _ FW.refl _ _ e2
  obtain ⟨-, k2, k3, k4, -⟩ := h.2.2.2.2.2.2.1
  have r9 := h.2.1 0 62 0 40 rfl
  have z := obey_x (by rw [k3]; exact r9) _ _ _ e1
  have y := obey_m r9 _ _ _ e2
  rw [k2, k3] at z
  have c10 : g1 6 10 = g2 0 73 := by rw [f1 6 10 (by decide) (by decide), f2 0 73 (by decide) (by decide)]; exact k4
  by_cases c : -1 ≤ p.toInt ∧ p.toInt < (gm 0 2).toInt
  · have z := z.1 c
    have y := y.1 c
    exact ⟨cp_fr0 h hI1 hI2 hJ2 f1 f2 (by decide) (by decide) (ic_eq.mpr (z.2.trans y.2.symm)) c10, z.1.trans y.1.symm⟩
  · have z := z.2 c
    have y := y.2 c
    exact ⟨cp_fr0 h hI1 hI2 hJ2 f1 f2 (by decide) (by decide) (z.2.trans y.2.symm) c10, z.1.trans y.1.symm⟩
/-- undoing -/
theorem undo_x {fu : Nat} {g : gT} {L : lT} (hr : 0 ≤ (g 6 9).toInt ∧ (g 6 9).toInt ≤ 40) : Pc (fX11_undo_0 fu g L) (fun r g1 _ => (1 ≤ (g 6 9).toInt → r.toInt = (g 6 9).toInt - 1 ∧ (g1 6 9).toInt = (g 6 9).toInt - 1) ∧ (¬ 1 ≤ (g 6 9).toInt → r = -1 ∧ g1 6 9 = g 6 9)) := by
  unfold fX11_undo_0
  refine pc_cb (P := fun r g1 _ => (1 ≤ (g 6 9).toInt → r.toInt = (g 6 9).toInt - 1 ∧ (g1 6 9).toInt = (g 6 9).toInt - 1) ∧ (¬ 1 ≤ (g 6 9).toInt → r = -1 ∧ g1 6 9 = g 6 9)) ?_ (fun r g1 L1 hh => pc_some hh)
  unfold fX3_takeBackAct_6 fX3_takeBackAct_6_p80
  refine pc_ite (fun c => ?_) (fun c => ?_)
  · have c := icc_le (m := 1) (n := (g 6 9).toInt) (by decide) rfl c
    refine pc_st (fun ga ea => ?_)
    have a9 : (ga 6 9).toInt = (g 6 9).toInt - 1 := by rw [ea, upd2_at]; exact ic_subc rfl (by decide) (by omega) (by omega)
    refine pc_ck (fun _ _ => pc_ite (fun _ => ?_) (fun _ => ?_))
    · refine pc_ck (fun _ _ => pc_st (fun gb eb => pc_some ?_))
      have b9 : gb 6 9 = ga 6 9 := by rw [eb]; rfl
      rw [b9]
      exact ⟨fun _ => ⟨a9, a9⟩, fun h => absurd c h⟩
    · refine pc_ck (fun _ _ => pc_ck (fun _ _ => pc_ck (fun _ _ => pc_cb (pc_kp (w_fX3_put_6 _ _ _ _ _ _ _ FW.refl)) (fun _ gb Lb hb => pc_some ?_))))
      rw [hb 6 9 (by decide) (by decide)]
      exact ⟨fun _ => ⟨a9, a9⟩, fun h => absurd c h⟩
  · have c := icc_nle (m := 1) (n := (g 6 9).toInt) (by decide) rfl c
    exact pc_some ⟨fun h => by omega, fun _ => ⟨rfl, rfl⟩⟩
theorem undo_m {fu : Nat} {g : gT} {L : lT} (hr : 0 ≤ (g 0 62).toInt ∧ (g 0 62).toInt ≤ 40) : Pc (fX12_undo fu g L) (fun r g1 _ => (1 ≤ (g 0 62).toInt → r.toInt = (g 0 62).toInt - 1 ∧ (g1 0 62).toInt = (g 0 62).toInt - 1) ∧ (¬ 1 ≤ (g 0 62).toInt → r = -1 ∧ g1 0 62 = g 0 62)) := by
  unfold fX12_undo fX12_undo_p89
  refine pc_st (fun ga ea => ?_)
  have a62 : ga 0 62 = g 0 62 := by rw [ea]; rfl
  rw [a62]
  refine pc_ite (fun c => ?_) (fun c => ?_)
  · have c := icc_eq (m := (g 0 62).toInt) (n := 0) rfl (by decide) c
    exact pc_some ⟨fun h => by omega, fun _ => ⟨rfl, a62⟩⟩
  have c := icc_neq (m := (g 0 62).toInt) (n := 0) rfl (by decide) c
  refine pc_st (fun gb eb => ?_)
  have b62 : (gb 0 62).toInt = (g 0 62).toInt - 1 := by rw [eb, upd2_at]; exact ic_subc rfl (by decide) (by omega) (by omega)
  refine pc_ck (fun _ _ => pc_ite (fun _ => ?_) (fun _ => ?_))
  · refine pc_ck (fun _ _ => pc_st (fun gc ec => pc_some ?_))
    have c62 : gc 0 62 = gb 0 62 := by rw [ec]; rfl
    rw [c62]
    exact ⟨fun _ => ⟨b62, b62⟩, fun h => by omega⟩
  · refine pc_ck (fun _ _ => pc_ck (fun _ _ => pc_ck (fun _ _ => pc_st (fun gc ec => pc_some ?_))))
    have c62 : gc 0 62 = gb 0 62 := by rw [ec]; rfl
    rw [c62]
    exact ⟨fun _ => ⟨b62, b62⟩, fun h => by omega⟩
theorem cp_undo {fu : Nat} {g gm g1 g2 : gT} {L Lm L1 L2 : lT} {rx rm : Int32} (h : CP g gm) (e1 : fX11_undo_0 fu g L = some (rx, (g1, L1))) (e2 : fX12_undo fu gm Lm = some (rm, (g2, L2))) (hI1 : zI XT g1) (hI2 : zI MT g2) (hJ2 : mJ g2) : CP g1 g2 ∧ rx = rm := by
  have f1 : FW _ _ g g1 := w_fX11_undo_0 _ _ _ _ FW.refl _ _ e1
  have f2 : FW _ _ gm g2 := w_fX12_undo _ _ _ _ FW.refl _ _ e2
  obtain ⟨-, k2, k3, k4, -⟩ := h.2.2.2.2.2.2.1
  have r9 := h.2.1 0 62 0 40 rfl
  have z := undo_x (by rw [k3]; exact r9) _ _ _ e1
  have y := undo_m r9 _ _ _ e2
  rw [k3] at z
  have c10 : g1 6 10 = g2 0 73 := by rw [f1 6 10 (by decide) (by decide), f2 0 73 (by decide) (by decide)]; exact k4
  by_cases c : 1 ≤ (gm 0 62).toInt
  · have z := z.1 c
    have y := y.1 c
    exact ⟨cp_fr0 h hI1 hI2 hJ2 f1 f2 (by decide) (by decide) (ic_eq.mpr (z.2.trans y.2.symm)) c10, ic_eq.mpr (z.1.trans y.1.symm)⟩
  · have z := z.2 c
    have y := y.2 c
    exact ⟨cp_fr0 h hI1 hI2 hJ2 f1 f2 (by decide) (by decide) (z.2.trans y.2.symm) c10, z.1.trans y.1.symm⟩
