/-! ===== harm answers alike ===== -/
theorem sd_dy {cs : Nat → List Int} {d : gT} {n : Nat} {g gm : gT} (hW : WF n d) (hS : SD n g gm) (h : DY cs d n (gm 31) (gm 32) (gm 33) (gm 34)) : DY cs d n (g 43) (g 44) (g 45) (g 46) := fun i hi =>
  (h i hi).c hW hi (fun j hj => (hS j (by omega)).2.1.symm) (hS i hi).1.symm (hS i hi).2.2.1.symm (hS i hi).2.2.2.symm
theorem cr_harm {fu : Nat} {p1 p2 : Int32} {g gm g1 g2 : gT} {L Lm L1 L2 : lT} {rx : Except String Int32} {rm : Int32} (h : CR g gm) (e1 : fX11_harm_0 fu p1 p2 g L = some (rx, (g1, L1))) (e2 : fX12_harm fu p1 p2 gm Lm = some (rm, (g2, L2))) : (rx = .ok rm ∧ g2 0 0 = 0) ∨ (rx = .error NSE ∧ g2 0 0 = 1) := by
  have hp := h.1.1
  have hI := hp.2.1
  obtain ⟨k1, -⟩ := hp.2.2.2.2.2.2.1
  have r1 := hI 0 1 0 12 rfl
  have a0 : upd2 gm 0 0 0 0 0 = 0 := upd2_at
  have a1 : upd2 gm 0 0 0 0 1 = gm 0 1 := rfl
  unfold fX11_harm_0 at e1
  unfold fX12_harm fX12_harm_p21 at e2
  unfold sti at e2
  have e2 : cb (fX12_isLesson fu p1 (upd2 gm 0 0 0) Lm) _ = some (rm, (g2, L2)) := e2
  by_cases c1 : isL (gm 0 1) p1
  rotate_left
  · rw [xneed0 (by rw [k1]; exact c1)] at e1
    have e1 : some (.error NSE, (g, L)) = some (rx, (g1, L1)) := e1
    rw [lesson0 a0 (by rw [a1]; exact c1)] at e2
    have e2 : some ((0 : Int32), (upd2 (upd2 gm 0 0 0) 0 0 1, Lm)) = some (rm, (g2, L2)) := e2
    cases e1; cases e2
    exact Or.inr ⟨rfl, upd2_at⟩
  rw [xneed1 (by rw [k1]; exact c1), cbxs] at e1
  rw [lesson1 a0 (by rw [a1]; exact c1), cbs, if_neg (by decide)] at e2
  by_cases c2 : isL (gm 0 1) p2
  rotate_left
  · rw [xneed0 (by rw [k1]; exact c2)] at e1
    have e1 : some (.error NSE, (g, L)) = some (rx, (g1, L1)) := e1
    rw [lesson0 a0 (by rw [a1]; exact c2)] at e2
    have e2 : some ((0 : Int32), (upd2 (upd2 gm 0 0 0) 0 0 1, Lm)) = some (rm, (g2, L2)) := e2
    cases e1; cases e2
    exact Or.inr ⟨rfl, upd2_at⟩
  rw [xneed1 (by rw [k1]; exact c2), cbxs] at e1
  rw [lesson1 a0 (by rw [a1]; exact c2), cbs, if_neg (by decide)] at e2
  have hl := l12 c1 r1.2
  have ho := l12 c2 r1.2
  obtain ⟨l, el⟩ : ∃ i : Nat, p1.toInt = (i : Int) := ⟨p1.toInt.toNat, by omega⟩
  obtain ⟨o, eo⟩ : ∃ i : Nat, p2.toInt = (i : Int) := ⟨p2.toInt.toNat, by omega⟩
  have nl : l < (gm 0 1).toInt.toNat := by have := c1.2; omega
  have no : o < (gm 0 1).toInt.toNat := by have := c2.2; omega
  have il : p1.toNatClampNeg = l := by rw [nc, el]; omega
  have i0 : (0 + p1).toNatClampNeg = l := by rw [nc, ic_addc (m := 0) rfl el (by omega) (by omega)]; omega
  have q0 : (0 + p1).toInt = (l : Int) := by rw [ic_addc (m := 0) rfl el (by omega) (by omega)]; omega
  obtain ⟨xa, ga, La, ea, e1⟩ := cb_some e1
  cases e1
  unfold fX10_harmDone_9 at ea
  unfold sti at ea
  rw [il] at ea
  rw [i0] at e2
  obtain ⟨y1, gb, Lb, eb, ea⟩ := cb_some ea
  obtain ⟨y2, gc, Lc, ec, e2⟩ := cb_some e2
  obtain ⟨cs, hS, hX, hM, hR⟩ := both h e0_u eb ec
  have hW := hM.2.1
  obtain ⟨y3, gd, Ld, ed, ex⟩ := cb_some ea
  obtain ⟨y4, ge, Le, ee, ey⟩ := cb_some e2
  clear ea e2
  obtain ⟨rfl, u1⟩ := late_x hX eo no _ _ _ ed
  obtain ⟨rfl, v1⟩ := late_m hR.2 eo _ _ _ ee
  have ckx : ∀ {K : Option (Int32 × zS)}, ck p1 12 K = K := ck_eq (by omega) (by omega)
  have ckm : ∀ {K : Option (Int32 × zS)}, ck (0 + p1) 48 K = K := ck_eq (by omega) (by omega)
  rw [ckx] at ex
  rw [ckm] at ey
  unfold lti at ex ey
  have ex : ck p1 12 (cb (fX1_runFrom_8 fu p1 (upd2 gd 25 l 0) Ld) _) = some (xa, (g1, L1)) := ex
  have ey : ck (0 + p1) 48 (cb (fX12_works0 fu (upd2 ge 12 l 0) Le) _) = some (rm, (g2, L2)) := ey
  rw [ckx] at ex
  rw [ckm] at ey
  obtain ⟨z1, gf, Lf, ef, ex⟩ := cb_some ex
  obtain ⟨z2, gg, Lg, eg, ey⟩ := cb_some ey
  rw [ckx] at ex
  rw [ckm] at ey
  obtain ⟨z3, gh, Lh, eh, ex⟩ := cb_some ex
  obtain ⟨z4, gi, Li, ei, ey⟩ := cb_some ey
  cases ex; cases ey
  have hXp := hX.put (q := 0) (l := l) (v := 0) (by decide) (by omega) (fun e => absurd e (by decide))
  have nx := rf_x hXp el (by omega) _ _ _ ef
  have hMp : MD cs (gm 0 1).toInt.toNat (upd2 ge 12 l 0) := (hM.e hR.2).put
  have nm := wk_m hMp _ _ _ eg
  have de : DE l (upd2 gm 0 0 0) (upd2 (upd2 gm 0 0 0) 12 (12 * 0 + l) 0) := de_put (by omega)
  have d1 := rf_dy (g := upd2 gd 25 l 0) de hW (MD.put hM).2.1 hM.1.2 (sd_dy hW hS hR.1) nx
  have d2 := nm.1
  have e12 : Em (upd2 (upd2 gm 0 0 0) 12 l 0) (upd2 ge 12 l 0) := hR.2.put
  rw [← DY_T, Td_e e12, DY_T] at d2
  rw [show 12 * 0 + l = l by omega] at d1
  have u := DY.u (MD.put hM).2.1 d1 d2 o no
  have hXf : DC cs (gm 0 1).toInt.toNat gf (upd2 (upd2 gm 0 0 0) 12 (12 * 0 + l) 0) := hXp.c nx.2.2
  obtain ⟨-, u2⟩ := late_x (hXf.put (q := 0) (l := l) (v := gd 25 l) (by decide) (by omega) (fun e => absurd e (by decide))) eo no _ _ _ eh
  have em : Em (upd2 gm 0 0 0) (upd2 gg 12 l (ge 12 l)) := by
    intro k hk
    by_cases h12 : k = 12
    · subst h12
      rw [upd2_k, nm.2 12 (by omega), upd2_k, hR.2 12 (by omega)]
      funext j
      by_cases hj : j = l
      · rw [hj, upd_at]
      · rw [upd_ne hj, upd_ne hj]
    · funext j
      rw [upd2_nk h12, nm.2 k hk, upd2_nk h12, hR.2 k hk]
  obtain ⟨v0, v2⟩ := late_m em eo _ _ _ ei
  refine Or.inl ⟨?_, ?_⟩
  · rw [u1, v1, u2, v2]
    repeat rw [upd2_nk (by decide)]
    rw [(hS o no).2.1, u.2.1]
  · rw [v0, em 0 (by omega)]; exact a0
