/-! ===== far, reaches, slack, answered ===== -/
theorem fd_61 {g gm : gT} (h : CR g gm) : upd2 gm 0 0 0 0 61 = -1 := by
  rw [upd2_nj (by decide)]
  exact h.1.2.2.2.2.2.2.2.2
theorem cr_far {fu : Nat} {p1 p2 p3 : Int32} {g gm g1 g2 : gT} {L Lm L1 L2 : lT} {rx : Except String Int32} {rm : Int32} (h : CR g gm) (e1 : fX11_far_0 fu p1 p2 p3 g L = some (rx, (g1, L1))) (e2 : fX12_far fu p1 p2 p3 gm Lm = some (rm, (g2, L2))) : (rx = .ok rm ∧ g2 0 0 = 0) ∨ (rx = .error NSE ∧ g2 0 0 = 1) ∨ (rx = .error IAE ∧ g2 0 0 = 2) := by
  have hp := h.1.1
  have hI := hp.2.1
  obtain ⟨k1, -⟩ := hp.2.2.2.2.2.2.1
  have r1 := hI 0 1 0 12 rfl
  have h61 := fd_61 h
  have a0 : upd2 gm 0 0 0 0 0 = 0 := upd2_at
  have a1 : upd2 gm 0 0 0 0 1 = gm 0 1 := rfl
  unfold fX11_far_0 fX11_far_0_p54 at e1
  unfold fX12_far fX12_far_p37 fX12_far_p60 at e2
  unfold sti at e2
  have e2 : cb (fX12_isLesson fu p1 (upd2 gm 0 0 0) Lm) _ = some (rm, (g2, L2)) := e2
  by_cases c1 : isL (gm 0 1) p1
  rotate_left
  · rw [xneed0 (by rw [k1]; exact c1)] at e1
    have e1 : some (.error NSE, (g, L)) = some (rx, (g1, L1)) := e1
    rw [lesson0 a0 (by rw [a1]; exact c1)] at e2
    have e2 : some ((0 : Int32), (upd2 (upd2 gm 0 0 0) 0 0 1, Lm)) = some (rm, (g2, L2)) := e2
    cases e1; cases e2
    exact Or.inr (Or.inl ⟨rfl, upd2_at⟩)
  rw [xneed1 (by rw [k1]; exact c1), cbxs] at e1
  rw [lesson1 a0 (by rw [a1]; exact c1), cbs, if_neg (by decide)] at e2
  have i1 : (1 : Int32).toInt = 1 := rfl
  have i2 : (2 : Int32).toInt = 2 := rfl
  by_cases c2 : 0 ≤ p3.toInt ∧ p3.toInt ≤ (1 : Int32).toInt
  rotate_left
  · rw [xwhat0 (fun hh => c2 (by omega))] at e1
    have e1 : some (.error NSE, (g, L)) = some (rx, (g1, L1)) := e1
    rw [what0 a0 c2] at e2
    have e2 : some ((0 : Int32), (upd2 (upd2 gm 0 0 0) 0 0 1, Lm)) = some (rm, (g2, L2)) := e2
    cases e1; cases e2
    exact Or.inr (Or.inl ⟨rfl, upd2_at⟩)
  rw [xwhat1 c2.1 (by omega), cbxs] at e1
  rw [what1 a0 c2.1 c2.2, cbs, if_neg (by decide)] at e2
  by_cases c3 : (0 : Int32).toInt ≤ p2.toInt ∧ p2.toInt ≤ (120 : Int32).toInt
  rotate_left
  · rw [xwith0 c3] at e1
    have e1 : some (.error IAE, (g, L)) = some (rx, (g1, L1)) := e1
    rw [within0 c3, cbs, right0 a0 (by decide), cbs, if_pos rfl] at e2
    cases e1; cases e2
    exact Or.inr (Or.inr ⟨rfl, upd2_at⟩)
  rw [xwith1 c3.1 c3.2, cbxs] at e1
  rw [within1 c3.1 c3.2, cbs, right1 a0, cbs, if_neg (by decide)] at e2
  have hl := l12 c1 r1.2
  obtain ⟨l, el⟩ : ∃ i : Nat, p1.toInt = (i : Int) := ⟨p1.toInt.toNat, by omega⟩
  have nl : l < (gm 0 1).toInt.toNat := by have := c1.2; omega
  obtain ⟨xa, ga, La, ea, e1⟩ := cb_some e1
  obtain ⟨xb, gb, Lb, eb, e1⟩ := cb_some e1
  obtain ⟨xc, gc, Lc, ec, e2⟩ := cb_some e2
  obtain ⟨cs, hX, hM, -⟩ := dc_all h
  have hX := hX.d (e0_u (x := 0))
  have hM := hM.d (e0_u (x := 0))
  have hW := hM.2.1
  have ta := tm_0 hX nl _ _ _ ea
  obtain ⟨tB, nB⟩ := tm_s hX h61 el nl ta _ _ _ eb
  obtain ⟨ec29, n1, n2, ex⟩ := moreBy_m hM (fun _ _ => rfl) h61 el (by omega) _ _ _ ec
  have hD := tm_c hX tB
  by_cases c0 : p3 = 0
  · rw [if_pos c0] at e1 e2
    obtain ⟨xd, gd, Ld, ed, e1⟩ := cb_some e1
    obtain ⟨xf, gf, Lf, ef, e2⟩ := cb_some e2
    cases e1; cases e2
    obtain ⟨-, u⟩ := bits_x hD _ _ _ ed
    obtain ⟨v0, v⟩ := later_m (n := (gm 0 1).toInt.toNat) (by rw [ec29 0 (by omega)]; exact hM.1.1) hM.1.2 _ _ _ ef
    refine Or.inl ⟨?_, by rw [v0, ec29 0 (by omega)]; exact a0⟩
    rw [u, v, flb_u hW (wf_mo hW) tB.2.2 nB n1 n2]
  · rw [if_neg c0] at e1 e2
    obtain ⟨xd, gd, Ld, ed, e1⟩ := cb_some e1
    cases e1; cases e2
    obtain ⟨-, u⟩ := mins_x hD _ _ _ ed
    refine Or.inl ⟨?_, by rw [ec29 0 (by omega)]; exact a0⟩
    have q : fo (fLM (gb 44) (gb 49)) (gm 0 1).toInt.toNat = fo (fLM (g2 32) (g2 37)) (gm 0 1).toInt.toNat := fo_c (fun i hi a => by unfold fLM; rw [EN.u hW tB.2.2 n1 i hi, EN.u (wf_mo hW) nB n2 i hi])
    rw [u, ex, q]
theorem cr_reaches {fu : Nat} {p1 p2 : Int32} {g gm g1 g2 : gT} {L Lm L1 L2 : lT} {rx : Except String Int32} {rm : Int32} (h : CR g gm) (e1 : fX11_reaches_0 fu p1 p2 g L = some (rx, (g1, L1))) (e2 : fX12_reaches fu p1 p2 gm Lm = some (rm, (g2, L2))) : (rx = .ok rm ∧ g2 0 0 = 0) ∨ (rx = .error NSE ∧ g2 0 0 = 1) ∨ (rx = .error IAE ∧ g2 0 0 = 2) := by
  have hp := h.1.1
  have hI := hp.2.1
  obtain ⟨k1, -⟩ := hp.2.2.2.2.2.2.1
  have r1 := hI 0 1 0 12 rfl
  have h61 := fd_61 h
  have a0 : upd2 gm 0 0 0 0 0 = 0 := upd2_at
  have a1 : upd2 gm 0 0 0 0 1 = gm 0 1 := rfl
  unfold fX11_reaches_0 at e1
  unfold fX12_reaches fX12_reaches_p39 fX12_reaches_p32 fX12_reaches_p39 at e2
  unfold sti at e2
  have e2 : cb (fX12_isLesson fu p1 (upd2 gm 0 0 0) Lm) _ = some (rm, (g2, L2)) := e2
  by_cases c1 : isL (gm 0 1) p1
  rotate_left
  · rw [xneed0 (by rw [k1]; exact c1)] at e1
    have e1 : some (.error NSE, (g, L)) = some (rx, (g1, L1)) := e1
    rw [lesson0 a0 (by rw [a1]; exact c1)] at e2
    have e2 : some ((0 : Int32), (upd2 (upd2 gm 0 0 0) 0 0 1, Lm)) = some (rm, (g2, L2)) := e2
    cases e1; cases e2
    exact Or.inr (Or.inl ⟨rfl, upd2_at⟩)
  rw [xneed1 (by rw [k1]; exact c1), cbxs] at e1
  rw [lesson1 a0 (by rw [a1]; exact c1), cbs, if_neg (by decide)] at e2
  by_cases c2 : isL (gm 0 1) p2
  rotate_left
  · rw [xneed0 (by rw [k1]; exact c2)] at e1
    have e1 : some (.error NSE, (g, L)) = some (rx, (g1, L1)) := e1
    rw [lesson0 a0 (by rw [a1]; exact c2)] at e2
    have e2 : some ((0 : Int32), (upd2 (upd2 gm 0 0 0) 0 0 1, Lm)) = some (rm, (g2, L2)) := e2
    cases e1; cases e2
    exact Or.inr (Or.inl ⟨rfl, upd2_at⟩)
  rw [xneed1 (by rw [k1]; exact c2), cbxs] at e1
  rw [lesson1 a0 (by rw [a1]; exact c2), cbs, if_neg (by decide)] at e2
  by_cases c3 : p1 = p2
  · rw [if_pos c3] at e1 e2
    rw [right0 a0 (by decide), cbs, if_pos rfl] at e2
    cases e1; cases e2
    exact Or.inr (Or.inr ⟨rfl, upd2_at⟩)
  rw [if_neg c3] at e1 e2
  rw [right1 a0, cbs, if_neg (by decide)] at e2
  have hl := l12 c1 r1.2
  have ho := l12 c2 r1.2
  obtain ⟨l, el⟩ : ∃ i : Nat, p1.toInt = (i : Int) := ⟨p1.toInt.toNat, by omega⟩
  obtain ⟨o, eo⟩ : ∃ i : Nat, p2.toInt = (i : Int) := ⟨p2.toInt.toNat, by omega⟩
  have nl : l < (gm 0 1).toInt.toNat := by have := c1.2; omega
  have no : o < (gm 0 1).toInt.toNat := by have := c2.2; omega
  obtain ⟨xa, ga, La, ea, e1⟩ := cb_some e1
  cases e1
  obtain ⟨cs, hX, hM, -⟩ := dc_all h
  have u := reach_x (hX.d (e0_u (x := 0))) h61 el nl eo no _ _ _ ea
  have v := reach_m (hM.d (e0_u (x := 0))) h61 el nl eo no _ _ _ e2
  exact Or.inl ⟨by rw [UP.u u v.2], by rw [v.1]; exact a0⟩
theorem cr_slack {fu : Nat} {p1 : Int32} {g gm g1 g2 : gT} {L Lm L1 L2 : lT} {rx : Except String Int32} {rm : Int32} (h : CR g gm) (e1 : fX11_slack_0 fu p1 g L = some (rx, (g1, L1))) (e2 : fX12_slack fu p1 gm Lm = some (rm, (g2, L2))) : (rx = .ok rm ∧ g2 0 0 = 0) ∨ (rx = .error NSE ∧ g2 0 0 = 1) := by
  have hp := h.1.1
  have hI := hp.2.1
  obtain ⟨k1, -⟩ := hp.2.2.2.2.2.2.1
  have r1 := hI 0 1 0 12 rfl
  have h61 := fd_61 h
  have a0 : upd2 gm 0 0 0 0 0 = 0 := upd2_at
  have a1 : upd2 gm 0 0 0 0 1 = gm 0 1 := rfl
  unfold fX11_slack_0 at e1
  unfold fX12_slack at e2
  unfold sti at e2
  have e2 : cb (fX12_isLesson fu p1 (upd2 gm 0 0 0) Lm) _ = some (rm, (g2, L2)) := e2
  by_cases c1 : isL (gm 0 1) p1
  rotate_left
  · rw [xneed0 (by rw [k1]; exact c1)] at e1
    have e1 : some (.error NSE, (g, L)) = some (rx, (g1, L1)) := e1
    rw [lesson0 a0 (by rw [a1]; exact c1)] at e2
    have e2 : some ((0 : Int32), (upd2 (upd2 gm 0 0 0) 0 0 1, Lm)) = some (rm, (g2, L2)) := e2
    cases e1; cases e2
    exact Or.inr ⟨rfl, upd2_at⟩
  rw [xneed1 (by rw [k1]; exact c1), cbxs] at e1
  rw [lesson1 a0 (by rw [a1]; exact c1), cbs, if_neg (by decide)] at e2
  have hl := l12 c1 r1.2
  obtain ⟨l, el⟩ : ∃ i : Nat, p1.toInt = (i : Int) := ⟨p1.toInt.toNat, by omega⟩
  have nl : l < (gm 0 1).toInt.toNat := by have := c1.2; omega
  obtain ⟨xa, ga, La, ea, e1⟩ := cb_some e1
  cases e1
  obtain ⟨cs, hX, hM, -⟩ := dc_all h
  have u := slack_x (hX.d (e0_u (x := 0))) h61 el nl _ _ _ ea
  have v := slack_m (hM.d (e0_u (x := 0))) h61 el nl _ _ _ e2
  exact Or.inl ⟨by rw [DN.u u v.2], by rw [v.1]; exact a0⟩
/-! ===== how far the numbers of a day go ===== -/
def NB (n : Nat) (d : gT) : Prop := (∀ i : Nat, i < n → ((0 ≤ (d 1 i).toInt ∧ (d 1 i).toInt < (d 2 i).toInt ∧ (d 2 i).toInt ≤ 999) ∧ (1 ≤ (d 3 i).toInt ∧ (d 3 i).toInt ≤ 200) ∧ (1 ≤ (d 4 i).toInt ∧ (d 4 i).toInt ≤ 99) ∧ (0 ≤ (d 7 i).toInt ∧ (d 7 i).toInt ≤ 10)) ∧ (0 ≤ (d 12 (36 + i)).toInt ∧ (d 12 (36 + i)).toInt ≤ 99) ∧ (0 ≤ (d 12 (24 + i)).toInt ∧ (d 12 (24 + i)).toInt ≤ 9)) ∧ (0 ≤ (d 0 3).toInt ∧ (d 0 3).toInt ≤ 9) ∧ (1 ≤ (d 0 4).toInt ∧ (d 0 4).toInt ≤ 99)
theorem nb_of {g gm e : gT} (h : CS g gm) (he : E0 gm e) : NB (gm 0 1).toInt.toNat e := by
  obtain ⟨h, hV⟩ := h
  have hI := h.1.1.2.1
  have q4 := hI 0 4 1 99 rfl
  have e3 : e 0 3 = gm 0 3 := he 0 3 (fun x => absurd x.2 (by decide))
  have e4 : e 0 4 = gm 0 4 := he 0 4 (fun x => absurd x.2 (by decide))
  unfold NB
  rw [he.k (show 1 ≠ 0 by decide), he.k (show 2 ≠ 0 by decide), he.k (show 3 ≠ 0 by decide), he.k (show 4 ≠ 0 by decide), he.k (show 7 ≠ 0 by decide), he.k (show 12 ≠ 0 by decide), e3, e4]
  exact ⟨fun i hi => ⟨hV.1.1 i (by omega), hV.2.1.1 i (by omega), h.2.2.1.1 i (by omega)⟩, hV.1.2, q4⟩
theorem clp_b {m v : Int32} (h : 0 ≤ m.toInt) : 0 ≤ (clp m v).toInt ∧ (clp m v).toInt ≤ m.toInt := by
  unfold clp
  by_cases a : 0 ≤ v
  · rw [if_pos a]
    by_cases b : v ≤ m
    · rw [if_pos b]
      exact ⟨icc_le (m := 0) (n := v.toInt) rfl rfl a, ic_le.mp b⟩
    · rw [if_neg b]
      exact ⟨h, Int.le_refl _⟩
  · rw [if_neg a]
    exact ⟨Int.le_refl _, h⟩
theorem ov_b {cs : Nat → List Int} {d : gT} {i : Nat} {b : Int32} : 0 ≤ (ov cs d i b).toInt ∧ (ov cs d i b).toInt ≤ 180 := by
  rw [ov_e]
  by_cases c : stb (d 0 60) i = 1
  · rw [if_pos c]; exact ⟨by decide, by decide⟩
  · rw [if_neg c]
    by_cases c1 : d 0 61 = Int32.ofInt (i : Int)
    · rw [if_pos c1]; exact clp_b (m := 180) (by decide)
    · rw [if_neg c1]
      have := clp_b (m := 60) (v := gv cs d i b) (by decide)
      have e : (60 : Int32).toInt = 60 := rfl
      omega
/-- when a lesson begins and ends, at most and at least -/
theorem dy_b {cs : Nat → List Int} {n : Nat} {d : gT} {bg en ru by_ : Nat → Int32} (hN : NB n d) (h : DY cs d n bg en ru by_) : ∀ i, i < n → ((d 1 i).toInt ≤ (bg i).toInt ∧ (bg i).toInt ≤ 1098) ∧ ((bg i).toInt < (en i).toInt ∧ (d 2 i).toInt ≤ (en i).toInt ∧ (en i).toInt ≤ 1478) := by
  intro i hi
  obtain ⟨⟨⟨f1, f2, f3⟩, ⟨f4, f5⟩, -⟩, ⟨f6, f7⟩, -⟩ := hN.1 i hi
  obtain ⟨hl, hr, he⟩ := h i hi
  have sl : (d 1 i + d 12 (36 + i)).toInt = (d 1 i).toInt + (d 12 (36 + i)).toInt := ic_addc rfl rfl (by omega) (by omega)
  have hb : (d 1 i).toInt ≤ (bg i).toInt ∧ (bg i).toInt ≤ 1098 := by
    rcases hl with ⟨-, b, -⟩ | ⟨-, v, -, ⟨-, b, -⟩ | ⟨-, -, b, -⟩ | ⟨c1, c2, b, -⟩⟩
    · rw [b]; omega
    · rw [b]; omega
    · rw [b]; omega
    · rw [b]; omega
  have o := ov_b (cs := cs) (d := d) (i := i) (b := bg i)
  rw [← hr] at o
  have s1 : (bg i + d 3 i).toInt = (bg i).toInt + (d 3 i).toInt := ic_addc rfl rfl (by omega) (by omega)
  refine ⟨hb, ?_⟩
  by_cases c : d 2 i < bg i + d 3 i
  · have c' := ic_lt.mp c
    rw [if_pos c] at he
    have e : (en i).toInt = (bg i).toInt + (d 3 i).toInt + (ru i).toInt := by rw [he]; exact ic_addc s1 rfl (by omega) (by omega)
    omega
  · have c' := icc_nlt (m := (d 2 i).toInt) (n := (bg i + d 3 i).toInt) rfl rfl c
    rw [if_neg c] at he
    have e : (en i).toInt = (d 2 i).toInt + (ru i).toInt := by rw [he]; exact ic_addc rfl rfl (by omega) (by omega)
    omega
