section
/-! ===== the coupling: become, see, forget ===== -/
def mst (x : Int) : Int := if x = 0 then 60 else if x = 1 then 30 else if x = 2 then 9 else 99
theorem most_eq {fu : Nat} {p : Int32} {g : gT} {L : lT} : ∃ y : Int32, fX11_mostOf fu p g L = some (y, (g, L)) ∧ y.toInt = mst p.toInt := by
  unfold fX11_mostOf mst
  by_cases c0 : p.toInt = 0
  · exact ⟨60, by rw [if_pos c0], by rw [if_pos c0]; rfl⟩
  by_cases c1 : p.toInt = 1
  · exact ⟨30, by rw [if_neg c0, if_pos c1], by rw [if_neg c0, if_pos c1]; rfl⟩
  by_cases c2 : p.toInt = 2
  · exact ⟨9, by rw [if_neg c0, if_neg c1, if_pos c2], by rw [if_neg c0, if_neg c1, if_pos c2]; rfl⟩
  · exact ⟨99, by rw [if_neg c0, if_neg c1, if_neg c2], by rw [if_neg c0, if_neg c1, if_neg c2]; rfl⟩
/-- what may become -/
def beC (n p1 p2 p3 : Int32) : Prop := isL n p1 ∧ (0 ≤ p2.toInt ∧ p2.toInt ≤ 3) ∧ 0 ≤ p3.toInt ∧ p3.toInt ≤ mst p2.toInt
theorem become_x {fu : Nat} {p1 p2 p3 : Int32} {g : gT} {L : lT} (hr : 0 ≤ (g 6 9).toInt ∧ (g 6 9).toInt ≤ 40) : Pc (fX11_become_0 fu p1 p2 p3 g L) (fun _ g1 _ => (beC (g 1 2) p1 p2 p3 → (g1 6 9).toInt = bmp (g 6 9).toInt) ∧ (¬ beC (g 1 2) p1 p2 p3 → g1 6 9 = g 6 9)) := by
  unfold fX11_become_0
  by_cases c1 : isL (g 1 2) p1
  rotate_left
  · refine pc_cbx (P := fun r g1 _ => (∃ E, r = .error E) ∧ g1 = g) (fun x g' L' e => by rw [xneed0 c1] at e; cases e; exact ⟨⟨_, rfl⟩, rfl⟩) (fun E g1 L1 hh => ⟨fun h => absurd h.1 c1, fun _ => by rw [hh.2]⟩) (fun x g1 L1 hh => by obtain ⟨⟨E, e⟩, -⟩ := hh; exact nomatch e)
  refine pc_cbx (P := fun r g1 L1 => r = .ok () ∧ g1 = g ∧ L1 = L) (fun x g' L' e => by rw [xneed1 c1] at e; cases e; exact ⟨rfl, rfl, rfl⟩) (fun E g1 L1 hh => nomatch hh.1) (fun x ga La hh => ?_)
  obtain ⟨-, rfl, rfl⟩ := hh
  have e4 : (4 : Int32).toInt = 4 := rfl
  by_cases c2 : 0 ≤ p2.toInt ∧ p2.toInt < (4 : Int32).toInt
  rotate_left
  · refine pc_cbx (P := fun r g1 _ => (∃ E, r = .error E) ∧ g1 = ga) (fun x g' L' e => by rw [xwhat0 c2] at e; cases e; exact ⟨⟨_, rfl⟩, rfl⟩) (fun E g1 L1 hh => ⟨fun h => absurd h.2.1 (fun h => c2 (by omega)), fun _ => by rw [hh.2]⟩) (fun x g1 L1 hh => by obtain ⟨⟨E, e⟩, -⟩ := hh; exact nomatch e)
  refine pc_cbx (P := fun r g1 L1 => r = .ok () ∧ g1 = ga ∧ L1 = La) (fun x g' L' e => by rw [xwhat1 c2.1 c2.2] at e; cases e; exact ⟨rfl, rfl, rfl⟩) (fun E g1 L1 hh => nomatch hh.1) (fun x gb Lb hh => ?_)
  obtain ⟨-, rfl, rfl⟩ := hh
  have P22 : ¬ beC (gb 1 2) p1 p2 p3 → Pc (fX11_become_0_p22 fu gb Lb) (fun _ g1 _ => (beC (gb 1 2) p1 p2 p3 → (g1 6 9).toInt = bmp (gb 6 9).toInt) ∧ (¬ beC (gb 1 2) p1 p2 p3 → g1 6 9 = gb 6 9)) := by
    intro hn
    unfold fX11_become_0_p22
    exact pc_ck (fun _ _ => pc_ck (fun _ _ => pc_st (fun gc ec => pc_some ⟨fun h => absurd h hn, fun _ => by rw [ec]; rfl⟩)))
  refine pc_ite (fun c => P22 (fun h => ?_)) (fun c3 => ?_)
  · have c := icc_lt (m := p3.toInt) (n := 0) rfl (by decide) c
    have := h.2.2.1; omega
  have c3 := icc_nlt (m := p3.toInt) (n := 0) rfl (by decide) c3
  obtain ⟨y, ey, hy⟩ := most_eq (fu := fu) (p := p2) (g := gb) (L := Lb)
  refine pc_cb (P := fun x g1 L1 => x = y ∧ g1 = gb ∧ L1 = Lb) (fun x g' L' e => by rw [ey] at e; cases e; exact ⟨rfl, rfl, rfl⟩) (fun x gc Lc hh => ?_)
  obtain ⟨rfl, rfl, rfl⟩ := hh
  refine pc_ite (fun c4 => ?_) (fun c4 => P22 (fun h => ?_))
  rotate_left
  · have c4 := icc_nle (m := p3.toInt) (n := x.toInt) rfl rfl c4
    have := h.2.2.2; omega
  have c4 := icc_le (m := p3.toInt) (n := x.toInt) rfl rfl c4
  refine pc_cb (pc_kp (w_fX3_value_6 _ _ _ _ _ _ FW.refl)) (fun x16 gd Ld hd => ?_)
  have d9 : gd 6 9 = gc 6 9 := hd 6 9 (by decide) (by decide)
  refine pc_cb (keepAct_n (by rw [d9]; exact hr.1) (by rw [d9]; exact hr.2)) (fun _ ge Le he => ?_)
  refine pc_cb (pc_kp (w_fX3_put_6 _ _ _ _ _ _ _ FW.refl)) (fun _ gf Lf hf => pc_some ⟨fun _ => ?_, fun h => absurd ⟨c1, ⟨c2.1, by omega⟩, c3, by omega⟩ h⟩)
  rw [hf 6 9 (by decide) (by decide), he, d9]
theorem become_m {fu : Nat} {p1 p2 p3 : Int32} {g : gT} {L : lT} (hr : 0 ≤ (g 0 62).toInt ∧ (g 0 62).toInt ≤ 40) : Pc (fX12_become fu p1 p2 p3 g L) (fun _ g1 _ => (beC (g 0 1) p1 p2 p3 → (g1 0 62).toInt = bmp (g 0 62).toInt) ∧ (¬ beC (g 0 1) p1 p2 p3 → g1 0 62 = g 0 62)) := by
  unfold fX12_become
  refine pc_st (fun ga ea => ?_)
  have a0 : ga 0 0 = 0 := by rw [ea]; exact upd2_at
  have a1 : ga 0 1 = g 0 1 := by rw [ea]; rfl
  have a62 : ga 0 62 = g 0 62 := by rw [ea]; rfl
  unfold fX12_become_p22
  by_cases c1 : isL (g 0 1) p1
  rotate_left
  · refine pc_cb (P := fun x g1 _ => x = 0 ∧ g1 0 62 = g 0 62) (fun x g' L' e => by rw [lesson0 a0 (by rw [a1]; exact c1)] at e; cases e; exact ⟨rfl, a62⟩) (fun x g1 L1 hh => ?_)
    rw [hh.1, if_pos rfl]
    exact pc_some ⟨fun h => absurd h.1 c1, fun _ => hh.2⟩
  refine pc_cb (P := fun x g1 L1 => x = 1 ∧ g1 = ga ∧ L1 = L) (fun x g' L' e => by rw [lesson1 a0 (by rw [a1]; exact c1)] at e; cases e; exact ⟨rfl, rfl, rfl⟩) (fun x gb Lb hh => ?_)
  obtain ⟨rfl, rfl, rfl⟩ := hh
  rw [if_neg (by decide)]
  have e3 : (3 : Int32).toInt = 3 := rfl
  by_cases c2 : 0 ≤ p2.toInt ∧ p2.toInt ≤ (3 : Int32).toInt
  rotate_left
  · refine pc_cb (P := fun x g1 _ => x = 0 ∧ g1 0 62 = g 0 62) (fun x g' L' e => by rw [what0 a0 c2] at e; cases e; exact ⟨rfl, a62⟩) (fun x g1 L1 hh => ?_)
    rw [hh.1, if_pos rfl]
    exact pc_some ⟨fun h => absurd h.2.1 (fun h => c2 (by omega)), fun _ => hh.2⟩
  refine pc_cb (P := fun x g1 L1 => x = 1 ∧ g1 = gb ∧ L1 = Lb) (fun x g' L' e => by rw [what1 a0 c2.1 c2.2] at e; cases e; exact ⟨rfl, rfl, rfl⟩) (fun x gc Lc hh => ?_)
  obtain ⟨rfl, rfl, rfl⟩ := hh
  rw [if_neg (by decide)]
  have P57 : ∀ hi : Int32, hi.toInt = mst p2.toInt → Pc (fX12_become_p57 fu p1 p2 p3 hi 0 p3 gc Lc) (fun _ g1 _ => (beC (g 0 1) p1 p2 p3 → (g1 0 62).toInt = bmp (g 0 62).toInt) ∧ (¬ beC (g 0 1) p1 p2 p3 → g1 0 62 = g 0 62)) := by
    intro hi hh
    unfold fX12_become_p57
    by_cases c3 : (0 : Int32).toInt ≤ p3.toInt ∧ p3.toInt ≤ hi.toInt
    · refine pc_cb (P := fun x g1 L1 => x = 1 ∧ g1 = gc ∧ L1 = Lc) (fun x g' L' e => by rw [within1 c3.1 c3.2] at e; cases e; exact ⟨rfl, rfl, rfl⟩) (fun x gd Ld hd => ?_)
      obtain ⟨rfl, rfl, rfl⟩ := hd
      rw [if_neg (by decide)]
      refine pc_lti (fun x17 _ => pc_ck (fun _ _ => pc_lti (fun x18 _ => ?_)))
      refine pc_cb (keeps_n (by rw [a62]; exact hr.1) (by rw [a62]; exact hr.2)) (fun _ ge Le he => pc_ck (fun _ _ => pc_st (fun gf ef => pc_some ⟨fun _ => ?_, fun h => absurd ⟨c1, ⟨c2.1, by omega⟩, c3.1, by omega⟩ h⟩)))
      rw [ef]
      show (ge 0 62).toInt = _
      rw [he, a62]
    · refine pc_cb (P := fun x g1 L1 => x = 0 ∧ g1 = gc ∧ L1 = Lc) (fun x g' L' e => by rw [within0 c3] at e; cases e; exact ⟨rfl, rfl, rfl⟩) (fun x gd Ld hd => ?_)
      obtain ⟨rfl, rfl, rfl⟩ := hd
      rw [if_pos rfl]
      refine pc_cb (P := fun x g' L' => g' 0 62 = g 0 62) ?_ (fun x ge Le he => pc_some ⟨fun h => absurd h.2.2 (fun h => c3 ⟨h.1, by omega⟩), fun _ => he⟩)
      unfold fX12_refuses
      exact pc_ck (fun _ _ => pc_ck (fun _ _ => pc_st (fun gf ef => pc_some (by rw [ef]; exact a62))))
  refine pc_ite (fun c => P57 60 ?_) (fun d0 => pc_ite (fun c => P57 30 ?_) (fun d1 => pc_ite (fun c => P57 9 ?_) (fun d2 => P57 99 ?_)))
  · rw [c]; rfl
  · rw [c]; rfl
  · rw [c]; rfl
  · have d0 := icc_neq (m := p2.toInt) (n := 0) rfl (by decide) d0
    have d1 := icc_neq (m := p2.toInt) (n := 1) rfl (by decide) d1
    have d2 := icc_neq (m := p2.toInt) (n := 2) rfl (by decide) d2
    unfold mst
    rw [if_neg d0, if_neg d1, if_neg d2]; rfl
theorem cp_become {fu : Nat} {p1 p2 p3 : Int32} {g gm g1 g2 : gT} {L Lm L1 L2 : lT} {rx : Except String Int32} {rm : Int32} (h : CP g gm) (e1 : fX11_become_0 fu p1 p2 p3 g L = some (rx, (g1, L1))) (e2 : fX12_become fu p1 p2 p3 gm Lm = some (rm, (g2, L2))) (hI1 : zI XT g1) (hI2 : zI MT g2) (hJ2 : mJ g2) : CP g1 g2 := by
  have f1 : FW _ _ g g1 := w_fX11_become_0 _ _ _ _ _ _ _ FW.refl _ _ e1
  have f2 : FW _ _ gm g2 := w_fX12_become _ _ _ _ _ _ _ FW.refl _ _ e2
  obtain ⟨k1, k2, k3, k4, -⟩ := h.2.2.2.2.2.2.1
  have r9 := h.2.1 0 62 0 40 rfl
  have z := become_x (by rw [k3]; exact r9) _ _ _ e1
  have y := become_m r9 _ _ _ e2
  rw [k1, k3] at z
  have c10 : g1 6 10 = g2 0 73 := by rw [f1 6 10 (by decide) (by decide), f2 0 73 (by decide) (by decide)]; exact k4
  by_cases c : beC (gm 0 1) p1 p2 p3
  · exact cp_fr0 h hI1 hI2 hJ2 f1 f2 (by decide) (by decide) (ic_eq.mpr ((z.1 c).trans (y.1 c).symm)) c10
  · exact cp_fr0 h hI1 hI2 hJ2 f1 f2 (by decide) (by decide) ((z.2 c).trans (y.2 c).symm) c10
/-- seeing -/
def seC (n k p1 p2 : Int32) : Prop := isL n p1 ∧ (0 ≤ p2.toInt ∧ p2.toInt ≤ 999) ∧ k.toInt < 8
def Sx (n k p1 p2 : Int32) (r : Except String Int32) (k' : Int32) : Prop := (¬ isL n p1 → r = .error "java/util/NoSuchElementException" ∧ k' = k) ∧ (seC n k p1 p2 → ∃ y : Int32, r = .ok y ∧ y.toInt = k.toInt + 1 ∧ k'.toInt = k.toInt + 1) ∧ (isL n p1 → ¬ seC n k p1 p2 → r = .ok (-1) ∧ k' = k)
theorem see_x {fu : Nat} {p1 p2 : Int32} {g : gT} {L : lT} (hr : 0 ≤ (g 6 10).toInt ∧ (g 6 10).toInt ≤ 8) : Pc (fX11_see_0 fu p1 p2 g L) (fun r g1 _ => Sx (g 1 2) (g 6 10) p1 p2 r (g1 6 10)) := by
  unfold fX11_see_0
  by_cases c1 : isL (g 1 2) p1
  rotate_left
  · refine pc_cbx (P := fun r g1 _ => r = .error "java/util/NoSuchElementException" ∧ g1 = g) (fun x g' L' e => by rw [xneed0 c1] at e; cases e; exact ⟨rfl, rfl⟩) (fun E g1 L1 hh => ?_) (fun x g1 L1 hh => nomatch hh.1)
    obtain ⟨e, rfl⟩ := hh
    cases e
    exact ⟨fun _ => ⟨rfl, rfl⟩, fun h => absurd h.1 c1, fun h => absurd h c1⟩
  refine pc_cbx (P := fun r g1 L1 => r = .ok () ∧ g1 = g ∧ L1 = L) (fun x g' L' e => by rw [xneed1 c1] at e; cases e; exact ⟨rfl, rfl, rfl⟩) (fun E g1 L1 hh => nomatch hh.1) (fun x ga La hh => ?_)
  obtain ⟨-, rfl, rfl⟩ := hh
  have P28 : ¬ seC (ga 1 2) (ga 6 10) p1 p2 → Pc (fX11_see_0_p28 fu ga La) (fun r g1 _ => Sx (ga 1 2) (ga 6 10) p1 p2 r (g1 6 10)) := by
    intro hn
    unfold fX11_see_0_p28
    exact pc_ck (fun _ _ => pc_ck (fun _ _ => pc_st (fun gc ec => pc_some ⟨fun h => absurd c1 h, fun h => absurd h hn, fun _ _ => ⟨rfl, by rw [ec]; rfl⟩⟩)))
  refine pc_ite (fun c => P28 (fun h => ?_)) (fun c2 => pc_ite (fun c => P28 (fun h => ?_)) (fun c3 => pc_ite (fun c4 => ?_) (fun c4 => P28 (fun h => ?_))))
  · have c := icc_lt (m := p2.toInt) (n := 0) rfl (by decide) c
    have := h.2.1.1; omega
  · have c := icc_lt (m := 999) (n := p2.toInt) (by decide) rfl c
    have := h.2.1.2; omega
  rotate_left
  · have c4 := icc_nlt (m := (ga 6 10).toInt) (n := 8) rfl (by decide) c4
    have := h.2.2; omega
  have c2 := icc_nlt (m := p2.toInt) (n := 0) rfl (by decide) c2
  have c3 := icc_nlt (m := 999) (n := p2.toInt) (by decide) rfl c3
  have c4 := icc_lt (m := (ga 6 10).toInt) (n := 8) rfl (by decide) c4
  refine pc_cb (P := fun _ g1 _ => (g1 6 10).toInt = (ga 6 10).toInt + 1) ?_ (fun _ gb Lb hb => pc_some ⟨fun h => absurd c1 h, fun _ => ⟨gb 6 10, rfl, hb, hb⟩, fun _ h => absurd ⟨c1, ⟨by omega, by omega⟩, by omega⟩ h⟩)
  unfold fX3_keepSeen_6 fX3_keepSeen_6_p39
  refine pc_ite (fun c => ?_) (fun _ => ?_)
  · have c := icc_le (m := 8) (n := (ga 6 10).toInt) (by decide) rfl c; omega
  refine pc_ck (fun _ _ => pc_st (fun gb eb => pc_ck (fun _ _ => pc_st (fun gc ec => pc_st (fun gd ed => pc_some ?_)))))
  have e : gc 6 10 = ga 6 10 := by rw [ec, eb]; rfl
  rw [ed, upd2_at, e]
  exact ic_addc rfl (by decide) (by omega) (by omega)
/-- the reference's answer, and what it would throw -/
def Sm2 (n k p1 p2 : Int32) (r t : Int32) (k' : Int32) : Prop := (¬ isL n p1 → t = 1 ∧ k' = k) ∧ (seC n k p1 p2 → t = 0 ∧ r.toInt = k.toInt + 1 ∧ k'.toInt = k.toInt + 1) ∧ (isL n p1 → ¬ seC n k p1 p2 → t = 0 ∧ r = -1 ∧ k' = k)
theorem see_m {fu : Nat} {p1 p2 : Int32} {g : gT} {L : lT} (hr : 0 ≤ (g 0 73).toInt ∧ (g 0 73).toInt ≤ 8) : Pc (fX12_see fu p1 p2 g L) (fun r g1 _ => Sm2 (g 0 1) (g 0 73) p1 p2 r (g1 0 0) (g1 0 73)) := by
  unfold fX12_see
  refine pc_st (fun ga ea => ?_)
  have a0 : ga 0 0 = 0 := by rw [ea]; exact upd2_at
  have a1 : ga 0 1 = g 0 1 := by rw [ea]; rfl
  have a73 : ga 0 73 = g 0 73 := by rw [ea]; rfl
  by_cases c1 : isL (g 0 1) p1
  rotate_left
  · refine pc_cb (P := fun x g1 _ => x = 0 ∧ g1 0 73 = g 0 73 ∧ g1 0 0 = 1) (fun x g' L' e => by rw [lesson0 a0 (by rw [a1]; exact c1)] at e; cases e; exact ⟨rfl, a73, upd2_at⟩) (fun x g1 L1 hh => ?_)
    rw [hh.1, if_pos rfl]
    exact pc_some ⟨fun _ => ⟨hh.2.2, hh.2.1⟩, fun h => absurd h.1 c1, fun h => absurd h c1⟩
  refine pc_cb (P := fun x g1 L1 => x = 1 ∧ g1 = ga ∧ L1 = L) (fun x g' L' e => by rw [lesson1 a0 (by rw [a1]; exact c1)] at e; cases e; exact ⟨rfl, rfl, rfl⟩) (fun x gb Lb hh => ?_)
  obtain ⟨rfl, rfl, rfl⟩ := hh
  rw [if_neg (by decide), a73]
  have P35 : ¬ seC (g 0 1) (g 0 73) p1 p2 → Pc (fX12_see_p35 fu gb Lb) (fun r g1 _ => Sm2 (g 0 1) (g 0 73) p1 p2 r (g1 0 0) (g1 0 73)) := by
    intro hn
    unfold fX12_see_p35
    refine pc_cb (P := fun x g' L' => x = -1 ∧ g' 0 73 = g 0 73 ∧ g' 0 0 = 0) ?_ (fun x ge Le he => pc_some ⟨fun h => absurd c1 h, fun h => absurd h hn, fun _ _ => ⟨he.2.2, he.1, he.2.1⟩⟩)
    unfold fX12_refuses
    exact pc_ck (fun _ _ => pc_ck (fun _ _ => pc_st (fun gf ef => pc_some ⟨rfl, by rw [ef]; exact a73, by rw [ef]; exact a0⟩)))
  refine pc_ite (fun c => P35 (fun h => ?_)) (fun c8 => ?_)
  · have c := icc_eq (m := (g 0 73).toInt) (n := 8) rfl (by decide) c
    have := h.2.2; omega
  have c8 := icc_neq (m := (g 0 73).toInt) (n := 8) rfl (by decide) c8
  have e999 : (999 : Int32).toInt = 999 := rfl
  have e0 : (0 : Int32).toInt = 0 := rfl
  by_cases c3 : (0 : Int32).toInt ≤ p2.toInt ∧ p2.toInt ≤ (999 : Int32).toInt
  rotate_left
  · refine pc_cb (P := fun x g1 L1 => x = 0 ∧ g1 = gb ∧ L1 = Lb) (fun x g' L' e => by rw [within0 c3] at e; cases e; exact ⟨rfl, rfl, rfl⟩) (fun x gd Ld hd => ?_)
    obtain ⟨rfl, rfl, rfl⟩ := hd
    rw [if_pos rfl]
    exact P35 (fun h => c3 (by have := h.2.1; omega))
  refine pc_cb (P := fun x g1 L1 => x = 1 ∧ g1 = gb ∧ L1 = Lb) (fun x g' L' e => by rw [within1 c3.1 c3.2] at e; cases e; exact ⟨rfl, rfl, rfl⟩) (fun x gd Ld hd => ?_)
  obtain ⟨rfl, rfl, rfl⟩ := hd
  rw [if_neg (by decide)]
  refine pc_ck (fun _ _ => pc_st (fun ge ee => pc_ck (fun _ _ => pc_st (fun gf ef => pc_st (fun gh eh => pc_some ?_)))))
  have e73 : gf 0 73 = g 0 73 := by rw [ef, ee]; exact a73
  have h73 : (gh 0 73).toInt = (g 0 73).toInt + 1 := by rw [eh, upd2_at, e73]; exact ic_addc rfl (by decide) (by omega) (by omega)
  have h00 : gh 0 0 = 0 := by rw [eh, ef, ee]; exact a0
  exact ⟨fun h => absurd c1 h, fun _ => ⟨h00, h73, h73⟩, fun _ h => absurd ⟨c1, ⟨by omega, by omega⟩, by omega⟩ h⟩
theorem cp_see {fu : Nat} {p1 p2 : Int32} {g gm g1 g2 : gT} {L Lm L1 L2 : lT} {rx : Except String Int32} {rm : Int32} (h : CP g gm) (e1 : fX11_see_0 fu p1 p2 g L = some (rx, (g1, L1))) (e2 : fX12_see fu p1 p2 gm Lm = some (rm, (g2, L2))) (hI1 : zI XT g1) (hI2 : zI MT g2) (hJ2 : mJ g2) : CP g1 g2 ∧ ((∃ E, rx = .error E ∧ E = "java/util/NoSuchElementException" ∧ g2 0 0 = 1) ∨ (rx = .ok rm ∧ g2 0 0 = 0)) := by
  have f1 : FW _ _ g g1 := w_fX11_see_0 _ _ _ _ _ _ FW.refl _ _ e1
  have f2 : FW _ _ gm g2 := w_fX12_see _ _ _ _ _ _ FW.refl _ _ e2
  obtain ⟨k1, k2, k3, k4, -⟩ := h.2.2.2.2.2.2.1
  have r10 := h.2.1 0 73 0 8 rfl
  have z := see_x (by rw [k4]; exact r10) _ _ _ e1
  have y := see_m r10 _ _ _ e2
  rw [k1, k4] at z
  have c9 : g1 6 9 = g2 0 62 := by rw [f1 6 9 (by decide) (by decide), f2 0 62 (by decide) (by decide)]; exact k3
  obtain ⟨z1, z2, z3⟩ := z
  obtain ⟨y1, y2, y3⟩ := y
  by_cases c1 : isL (gm 0 1) p1
  rotate_left
  · have z := z1 c1
    have y := y1 c1
    exact ⟨cp_fr0 h hI1 hI2 hJ2 f1 f2 (by decide) (by decide) c9 (z.2.trans y.2.symm), Or.inl ⟨_, z.1, rfl, y.1⟩⟩
  by_cases c : seC (gm 0 1) (gm 0 73) p1 p2
  · obtain ⟨w, q1, q2, q3⟩ := z2 c
    have y := y2 c
    refine ⟨cp_fr0 h hI1 hI2 hJ2 f1 f2 (by decide) (by decide) c9 (ic_eq.mpr (q3.trans y.2.2.symm)), Or.inr ⟨?_, y.1⟩⟩
    rw [q1, show w = rm from ic_eq.mpr (q2.trans y.2.1.symm)]
  · have z := z3 c1 c
    have y := y3 c1 c
    exact ⟨cp_fr0 h hI1 hI2 hJ2 f1 f2 (by decide) (by decide) c9 (z.2.trans y.2.2.symm), Or.inr ⟨by rw [z.1, y.2.1], y.1⟩⟩
theorem cp_forget {fu : Nat} {g gm g1 g2 : gT} {L Lm L1 L2 : lT} {rx rm : Unit} (h : CP g gm) (e1 : fX11_forget_0 fu g L = some (rx, (g1, L1))) (e2 : fX12_forget fu gm Lm = some (rm, (g2, L2))) (hI1 : zI XT g1) (hI2 : zI MT g2) (hJ2 : mJ g2) : CP g1 g2 := by
  have f1 : FW _ _ g g1 := w_fX11_forget_0 _ _ _ _ FW.refl _ _ e1
  have f2 : FW _ _ gm g2 := w_fX12_forget _ _ _ _ FW.refl _ _ e2
  obtain ⟨k1, k2, k3, k4, -⟩ := h.2.2.2.2.2.2.1
  have c9 : g1 6 9 = g2 0 62 := by rw [f1 6 9 (by decide) (by decide), f2 0 62 (by decide) (by decide)]; exact k3
  refine cp_fr0 h hI1 hI2 hJ2 f1 f2 (by decide) (by decide) c9 ?_
  unfold fX11_forget_0 at e1
  unfold fX12_forget at e2
  have e1 : some _ = some (rx, (g1, L1)) := e1
  have e2 : some _ = some (rm, (g2, L2)) := e2
  cases e1; cases e2
  rfl
end
section
/-! ===== the data, side by side ===== -/
/-- a code that runs from height h to height h', never above 64 -/
def rp : List Int → Nat → Nat → Prop
  | [], h, h' => h = h'
  | x :: c, h, h' => (-15 ≤ x ∧ -6 ≤ x ∧ h < 64 ∧ rp c (h + 1) h') ∨ (x = -15 ∧ 1 ≤ h ∧ rp c h h') ∨ ((-14 ≤ x ∧ x ≤ -7) ∧ 2 ≤ h ∧ rp c (h - 1) h')
theorem rp_ap : ∀ {c d : List Int} {h h' h'' : Nat}, rp c h h' → rp d h' h'' → rp (c ++ d) h h'' := by
  intro c
  induction c with
  | nil => intro d h h' h'' h1 h2; have h1 : h = h' := h1; rw [h1]; exact h2
  | cons x c ih =>
    intro d h h' h'' h1 h2
    rcases h1 with ⟨a, b, c1, e⟩ | ⟨a, b, e⟩ | ⟨a, b, e⟩
    · exact Or.inl ⟨a, b, c1, ih e h2⟩
    · exact Or.inr (Or.inl ⟨a, b, ih e h2⟩)
    · exact Or.inr (Or.inr ⟨a, b, ih e h2⟩)
theorem rp_op {h : Nat} {x : Int} (h1 : -14 ≤ x) (h2 : x ≤ -7) : rp [x] (h + 2) (h + 1) := Or.inr (Or.inr ⟨⟨h1, h2⟩, by omega, rfl⟩)
theorem tV_ge {b : Nat → Int32} {n P : Nat} : 0 ≤ tV b n P := by
  unfold tV
  by_cases hk : tK b n P = 1
  · rw [if_pos hk]
    refine (vl_b (fun i hi => ?_)).1
    have := tE_all (b := b) (n := n) (Or.inl hk) (show P ≤ P + i by omega) (by omega)
    rw [hk] at this
    revert this
    generalize (b (P + i)).toInt = c
    unfold kd
    intro this
    split at this
    · exact absurd this (by decide)
    · split at this
      · assumption
      · split at this
        · exact absurd this (by decide)
        · exact absurd this (by decide)
  · rw [if_neg hk]; decide
/-- what is read is a code that leaves one value -/
theorem xs_rp {b : Nat → Int32} {n : Nat} : ∀ (f lev d : Nat) (acc : List Int) (P : Nat) (c : List Int) (Q : Nat), xs b n f lev d acc P = .ok (c, Q) → d ≤ 5 → ∀ h : Nat,
    (lev = 0 → h + 5 * (5 - d) + 1 ≤ 64 → rp c h (h + 1)) ∧ (lev = 1 → h + 5 * (5 - d) + 2 ≤ 64 → rp c h (h + 1)) ∧ (lev = 2 → h + 5 * (5 - d) + 3 ≤ 64 → rp c h (h + 1)) ∧ (lev = 3 → h + 5 * (5 - d) + 4 ≤ 64 → rp c h (h + 1)) ∧ (lev = 4 → h + 5 * (5 - d) + 4 ≤ 64 → (∀ x ∈ acc, x = -15) → rp c h (h + 1)) ∧ (lev = 5 → h + 5 * (5 - d) + 5 ≤ 64 → rp c h (h + 1)) ∧ (lev = 6 → h + 5 * (5 - d) + 6 ≤ 64 → rp c h (h + 1)) ∧ (lev = 7 → h + 5 * (5 - d) + 2 ≤ 64 → rp acc h (h + 1) → rp c h (h + 1)) ∧ (lev = 8 → h + 5 * (5 - d) + 3 ≤ 64 → rp acc h (h + 1) → rp c h (h + 1)) ∧ (lev = 10 → h + 5 * (5 - d) + 5 ≤ 64 → rp acc h (h + 1) → rp c h (h + 1)) ∧ (lev = 11 → h + 5 * (5 - d) + 6 ≤ 64 → rp acc h (h + 1) → rp c h (h + 1)) := by
  intro f
  induction f with
  | zero => intro lev d acc P c Q h; exact nomatch h
  | succ f ih =>
    intro lev d acc P c Q hx hd h
    have opm : ∀ {a c1 : List Int} {o : Int}, -14 ≤ o → o ≤ -7 → rp a h (h + 1) → rp c1 (h + 1) (h + 2) → rp (a ++ c1 ++ [o]) h (h + 1) := fun h1 h2 ha hc => rp_ap (rp_ap ha hc) (rp_op h1 h2)
    refine ⟨?_, ?_, ?_, ?_, ?_, ?_, ?_, ?_, ?_, ?_, ?_⟩
    · rintro rfl hh
      rw [xe_0] at hx
      split at hx
      · split at hx
        · cases hx
          have := tV_ge (b := b) (n := n) (P := P)
          exact Or.inl ⟨by omega, by omega, by omega, rfl⟩
        · exact nomatch hx
      · split at hx
        · split at hx
          · cases hx
            exact Or.inl ⟨by omega, by omega, by omega, rfl⟩
          · exact nomatch hx
        · split at hx
          · obtain ⟨c1, Q1, e1, e2⟩ := eb_inv hx
            split at e2
            · cases e2
              by_cases h4 : d ≤ 4
              · exact (ih 6 (d + 1) [] _ _ _ e1 (by omega) h).2.2.2.2.2.2.1 rfl (by omega)
              · obtain ⟨f, rfl⟩ : ∃ f', f = f' + 1 := by
                  cases f with
                  | zero => exact nomatch e1
                  | succ f => exact ⟨f, rfl⟩
                rw [xe_6, if_neg (by omega)] at e1
                exact nomatch e1
            · exact nomatch e2
          · exact nomatch hx
    · rintro rfl hh
      rw [xe_1] at hx
      obtain ⟨c1, Q1, e1, e2⟩ := eb_inv hx
      exact (ih 7 d c1 Q1 c Q e2 hd h).2.2.2.2.2.2.2.1 rfl hh ((ih 0 d [] P c1 Q1 e1 hd h).1 rfl (by omega))
    · rintro rfl hh
      rw [xe_2] at hx
      obtain ⟨c1, Q1, e1, e2⟩ := eb_inv hx
      exact (ih 8 d c1 Q1 c Q e2 hd h).2.2.2.2.2.2.2.2.1 rfl hh ((ih 1 d [] P c1 Q1 e1 hd h).2.1 rfl (by omega))
    · rintro rfl hh
      rw [xe_3] at hx
      obtain ⟨c1, Q1, e1, e2⟩ := eb_inv hx
      have r1 := (ih 2 d [] P c1 Q1 e1 hd h).2.2.1 rfl (by omega)
      split at e2
      · obtain ⟨c2, Q2, e3, e4⟩ := eb_inv e2
        cases e4
        exact opm (by decide) (by decide) r1 ((ih 2 d [] _ c2 Q e3 hd (h + 1)).2.2.1 rfl (by omega))
      · split at e2
        · obtain ⟨c2, Q2, e3, e4⟩ := eb_inv e2
          cases e4
          exact opm (by decide) (by decide) r1 ((ih 2 d [] _ c2 Q e3 hd (h + 1)).2.2.1 rfl (by omega))
        · cases e2; exact r1
    · rintro rfl hh hacc
      rw [xe_4] at hx
      split at hx
      · split at hx
        · exact (ih 4 d _ _ c Q hx hd h).2.2.2.2.1 rfl hh (fun x hx => by rcases List.mem_cons.mp hx with e | e; exact e; exact hacc x e)
        · exact nomatch hx
      · obtain ⟨c1, Q1, e1, e2⟩ := eb_inv hx
        cases e2
        refine rp_ap ((ih 3 d [] P c1 Q e1 hd h).2.2.2.1 rfl hh) ?_
        clear ih opm hx e1
        induction acc with
        | nil => rfl
        | cons x acc ia => exact Or.inr (Or.inl ⟨hacc x List.mem_cons_self, by omega, ia (fun y hy => hacc y (List.mem_cons_of_mem _ hy))⟩)
    · rintro rfl hh
      rw [xe_5] at hx
      obtain ⟨c1, Q1, e1, e2⟩ := eb_inv hx
      exact (ih 10 d c1 Q1 c Q e2 hd h).2.2.2.2.2.2.2.2.2.1 rfl hh ((ih 4 d [] P c1 Q1 e1 hd h).2.2.2.2.1 rfl (by omega) (fun x hx => absurd hx (List.not_mem_nil)))
    · rintro rfl hh
      rw [xe_6, if_pos hd] at hx
      obtain ⟨c1, Q1, e1, e2⟩ := eb_inv hx
      exact (ih 11 d c1 Q1 c Q e2 hd h).2.2.2.2.2.2.2.2.2.2 rfl hh ((ih 5 d [] P c1 Q1 e1 hd h).2.2.2.2.2.1 rfl (by omega))
    · rintro rfl hh ha
      rw [xe_7] at hx
      split at hx
      · obtain ⟨c1, Q1, e1, e2⟩ := eb_inv hx
        exact (ih 7 d _ Q1 c Q e2 hd h).2.2.2.2.2.2.2.1 rfl hh (opm (by decide) (by decide) ha ((ih 0 d [] _ c1 Q1 e1 hd (h + 1)).1 rfl (by omega)))
      · split at hx
        · obtain ⟨c1, Q1, e1, e2⟩ := eb_inv hx
          exact (ih 7 d _ Q1 c Q e2 hd h).2.2.2.2.2.2.2.1 rfl hh (opm (by decide) (by decide) ha ((ih 0 d [] _ c1 Q1 e1 hd (h + 1)).1 rfl (by omega)))
        · cases hx; exact ha
    · rintro rfl hh ha
      rw [xe_8] at hx
      split at hx
      · obtain ⟨c1, Q1, e1, e2⟩ := eb_inv hx
        exact (ih 8 d _ Q1 c Q e2 hd h).2.2.2.2.2.2.2.2.1 rfl hh (opm (by decide) (by decide) ha ((ih 1 d [] _ c1 Q1 e1 hd (h + 1)).2.1 rfl (by omega)))
      · split at hx
        · obtain ⟨c1, Q1, e1, e2⟩ := eb_inv hx
          exact (ih 8 d _ Q1 c Q e2 hd h).2.2.2.2.2.2.2.2.1 rfl hh (opm (by decide) (by decide) ha ((ih 1 d [] _ c1 Q1 e1 hd (h + 1)).2.1 rfl (by omega)))
        · cases hx; exact ha
    · rintro rfl hh ha
      rw [xe_10] at hx
      split at hx
      · obtain ⟨c1, Q1, e1, e2⟩ := eb_inv hx
        exact (ih 10 d _ Q1 c Q e2 hd h).2.2.2.2.2.2.2.2.2.1 rfl hh (opm (by decide) (by decide) ha ((ih 4 d [] _ c1 Q1 e1 hd (h + 1)).2.2.2.2.1 rfl (by omega) (fun x hx => absurd hx (List.not_mem_nil))))
      · cases hx; exact ha
    · rintro rfl hh ha
      rw [xe_11] at hx
      split at hx
      · obtain ⟨c1, Q1, e1, e2⟩ := eb_inv hx
        exact (ih 11 d _ Q1 c Q e2 hd h).2.2.2.2.2.2.2.2.2.2 rfl hh (opm (by decide) (by decide) ha ((ih 5 d [] _ c1 Q1 e1 hd (h + 1)).2.2.2.2.2.1 rfl (by omega)))
      · cases hx; exact ha
end
section
/-! ===== the data of class and reference ===== -/
def wSn (gm : gT) (i : Nat) : Nat → Int32
  | 0 => 0
  | k + 1 => wSn gm i k ||| ((1 : Int32) <<< (gm 9 (6 * i + k) &&& 31))
theorem wSn_c {gm g2 : gT} {i : Nat} (h : g2 9 = gm 9) : ∀ k, wSn g2 i k = wSn gm i k := by
  intro k
  induction k with
  | zero => rfl
  | succ k ih => show wSn g2 i k ||| _ = wSn gm i k ||| _; rw [ih, h]
theorem wSn_m {gm : gT} {i : Nat} {acc : List Int} (h : ∀ j (hj : j < acc.length), (gm 9 (6 * i + j)).toInt = acc[j]) : ∀ k, k ≤ acc.length → wSn gm i k = mW (acc.take k) := by
  intro k
  induction k with
  | zero => intro _; rfl
  | succ k ih =>
    intro hk
    have e : acc.take (k + 1) = acc.take k ++ [(gm 9 (6 * i + k)).toInt] := by
      rw [h k (by omega)]
      exact (List.take_append_getElem (by omega)).symm
    rw [e, mW_ap, ← ih (by omega)]; rfl
/-- a lesson -/
def LC (i : Nat) (g gm : gT) : Prop := (g (57 + i) 3 = gm 1 i ∧ g (57 + i) 4 = gm 2 i ∧ g (57 + i) 5 = gm 3 i ∧ g (57 + i) 8 = gm 4 i) ∧ (g (57 + i) 9 = gm 5 i ∧ g (57 + i) 10 = gm 6 i ∧ g (57 + i) 12 = gm 7 i ∧ g (57 + i) 1 = gm 8 i) ∧ g (57 + i) 2 = wSn gm i (gm 8 i).toInt.toNat ∧ ∀ k : Nat, (k : Int) < (gm 8 i).toInt → g (81 + i) k = gm 9 (6 * i + k)
/-- what is held of a lesson -/
def HC (i a c : Nat) (g gm : gT) : Prop := g a i = gm c i ∧ g (a + 1) i = gm c (12 + i) ∧ g (a + 2) i = gm c (24 + i) ∧ g (a + 3) i = gm c (36 + i)
/-- acts -/
def AC (m : Int) (a c : Nat) (g gm : gT) : Prop := ∀ k : Nat, (k : Int) < m → (((g a k).toInt = 4 ∧ (gm c (2 * k)).toInt = 48) ∨ ((0 ≤ (g a k).toInt ∧ (g a k).toInt ≤ 3) ∧ (0 ≤ (g (a + 1) k).toInt ∧ (g (a + 1) k).toInt ≤ 11) ∧ (gm c (2 * k)).toInt = 12 * (g a k).toInt + (g (a + 1) k).toInt)) ∧ g (a + 2) k = gm c (2 * k + 1)
/-- sightings -/
def SC (m : Int) (a c : Nat) (g gm : gT) : Prop := ∀ k : Nat, (k : Int) < m → g a k = gm c (2 * k) ∧ g (a + 1) k = gm c (2 * k + 1)
/-- rules -/
def RC (m : Nat) (g gm : gT) : Prop := ∃ (cs : Nat → List Int) (o p : Nat → Nat), (∀ r, r ≤ m → (g 20 r).toInt = (o r : Int)) ∧ ∀ r, r < m → o (r + 1) = o r + (cs r).length ∧ (∀ i, i < (cs r).length → (g 19 (o r + i)).toInt = (cs r).getD i 0) ∧ (gm 10 r).toInt = (p r : Int) ∧ (∀ i (hi : i < (enc (cs r) ++ [0]).length), (gm 11 (p r + i)).toInt = (enc (cs r) ++ [0])[i]) ∧ rp (cs r) 0 1
/-- an image -/
def IC (g gm : gT) : Prop := (∀ i : Nat, (i : Int) < (gm 0 1).toInt → HC i 34 48 g gm) ∧ g 7 11 = gm 0 82 ∧ AC (gm 0 83).toInt 38 49 g gm ∧ SC (gm 0 84).toInt 41 50 g gm
/-- what is held -/
def HD (g gm : gT) : Prop := (∀ i : Nat, (i : Int) < (gm 0 1).toInt → HC i 25 12 g gm) ∧ g 6 11 = gm 0 52 ∧ AC (gm 0 62).toInt 29 36 g gm ∧ SC (gm 0 73).toInt 32 43 g gm
/-- the plan -/
def PD (g gm : gT) : Prop := (∀ i : Nat, (i : Int) < (gm 0 1).toInt → LC i g gm) ∧ g 1 3 = gm 0 3 ∧ g 1 4 = gm 0 4 ∧ RC (gm 0 2).toInt.toNat g gm
/-- everybody runs over, nobody by more -/
def FD (g gm : gT) : Prop := g 8 8 = -1 ∧ g 8 9 = -1 ∧ gm 0 60 = 0 ∧ gm 0 61 = -1
def CD (g gm : gT) : Prop := PD g gm ∧ HD g gm ∧ (¬ gm 0 81 = 0 → IC g gm) ∧ (∀ j, j < 3 → g 15 j = gm 14 j) ∧ FD g gm
abbrev pcX : List Nat := [19, 20, 57, 58, 59, 60, 61, 62, 63, 64, 65, 66, 67, 68, 81, 82, 83, 84, 85, 86, 87, 88, 89, 90, 91, 92]
abbrev pcM : List Nat := [1, 2, 3, 4, 5, 6, 7, 8, 9, 10, 11]
theorem pcX_m : ∀ i, i < 12 → 57 + i ∈ pcX ∧ 81 + i ∈ pcX := by decide
theorem LC.c {i : Nat} {g gm g1 g2 : gT} (h : LC i g gm) (h1 : g1 (57 + i) = g (57 + i)) (h2 : g1 (81 + i) = g (81 + i)) (hm : ∀ k, 1 ≤ k → k ≤ 9 → g2 k = gm k) : LC i g1 g2 := by
  obtain ⟨⟨y1, y2, y3, y4⟩, ⟨y5, y6, y7, y8⟩, y9, y10⟩ := h
  have m8 := hm 8 (by decide) (by decide)
  have m9 := hm 9 (by decide) (by decide)
  refine ⟨⟨?_, ?_, ?_, ?_⟩, ⟨?_, ?_, ?_, ?_⟩, ?_, fun k hk => ?_⟩
  · rw [h1, hm 1 (by decide) (by decide)]; exact y1
  · rw [h1, hm 2 (by decide) (by decide)]; exact y2
  · rw [h1, hm 3 (by decide) (by decide)]; exact y3
  · rw [h1, hm 4 (by decide) (by decide)]; exact y4
  · rw [h1, hm 5 (by decide) (by decide)]; exact y5
  · rw [h1, hm 6 (by decide) (by decide)]; exact y6
  · rw [h1, hm 7 (by decide) (by decide)]; exact y7
  · rw [h1, m8]; exact y8
  · rw [h1, m8, wSn_c m9]; exact y9
  · rw [m8] at hk
    rw [h2, m9]; exact y10 k hk
theorem HC.c {i a c : Nat} {g gm g1 g2 : gT} (h : HC i a c g gm) (h0 : g1 a = g a) (h1 : g1 (a + 1) = g (a + 1)) (h2 : g1 (a + 2) = g (a + 2)) (h3 : g1 (a + 3) = g (a + 3)) (hm : g2 c = gm c) : HC i a c g1 g2 := by
  unfold HC
  rw [h0, h1, h2, h3, hm]; exact h
theorem AC.c {m : Int} {a c : Nat} {g gm g1 g2 : gT} (h : AC m a c g gm) (h0 : g1 a = g a) (h1 : g1 (a + 1) = g (a + 1)) (h2 : g1 (a + 2) = g (a + 2)) (hm : g2 c = gm c) : AC m a c g1 g2 := by
  unfold AC
  rw [h0, h1, h2, hm]; exact h
theorem SC.c {m : Int} {a c : Nat} {g gm g1 g2 : gT} (h : SC m a c g gm) (h0 : g1 a = g a) (h1 : g1 (a + 1) = g (a + 1)) (hm : g2 c = gm c) : SC m a c g1 g2 := by
  unfold SC
  rw [h0, h1, hm]; exact h
theorem RC.c {m : Nat} {g gm g1 g2 : gT} (h : RC m g gm) (h0 : g1 20 = g 20) (h1 : g1 19 = g 19) (h2 : g2 10 = gm 10) (h3 : g2 11 = gm 11) : RC m g1 g2 := by
  unfold RC
  rw [h0, h1, h2, h3]; exact h
/-- nothing of the plan is written -/
theorem PD.f {A A' : List (Nat × Nat)} {B B' : List Nat} {g gm g1 g2 : gT} (hI : zI MT gm) (h : PD g gm) (f1 : FW A B g g1) (f2 : FW A' B' gm g2) (o1 : okw pcX [(1, 3), (1, 4)] A B = true) (o2 : okw pcM [(0, 1), (0, 2), (0, 3), (0, 4)] A' B' = true) : PD g1 g2 := by
  obtain ⟨y1, y2, y3, y4⟩ := h
  have q1 := hI 0 1 0 12 rfl
  have e1 : g2 0 1 = gm 0 1 := okw_f o2 f2 (by decide)
  have e2 : g2 0 2 = gm 0 2 := okw_f o2 f2 (by decide)
  refine ⟨fun i hi => ?_, ?_, ?_, ?_⟩
  · rw [e1] at hi
    have hm := pcX_m i (by omega)
    refine (y1 i hi).c (okw_c o1 f1 hm.1) (okw_c o1 f1 hm.2) (fun k a c => okw_c o2 f2 ?_)
    rcases (by omega : k = 1 ∨ k = 2 ∨ k = 3 ∨ k = 4 ∨ k = 5 ∨ k = 6 ∨ k = 7 ∨ k = 8 ∨ k = 9) with rfl | rfl | rfl | rfl | rfl | rfl | rfl | rfl | rfl <;> decide
  · rw [okw_f (k := 1) (j := 3) o1 f1 (by decide), okw_f (k := 0) (j := 3) o2 f2 (by decide)]; exact y2
  · rw [okw_f (k := 1) (j := 4) o1 f1 (by decide), okw_f (k := 0) (j := 4) o2 f2 (by decide)]; exact y3
  · rw [e2]
    exact y4.c (okw_c o1 f1 (by decide)) (okw_c o1 f1 (by decide)) (okw_c o2 f2 (by decide)) (okw_c o2 f2 (by decide))
/-- nothing of what is held is written -/
theorem HD.f {A A' : List (Nat × Nat)} {B B' : List Nat} {g gm g1 g2 : gT} (h : HD g gm) (f1 : FW A B g g1) (f2 : FW A' B' gm g2) (o1 : okw [25, 26, 27, 28, 29, 30, 31, 32, 33] [(6, 11)] A B = true) (o2 : okw [12, 36, 43] [(0, 1), (0, 52), (0, 62), (0, 73)] A' B' = true) : HD g1 g2 := by
  obtain ⟨y1, y2, y3, y4⟩ := h
  have e1 : g2 0 1 = gm 0 1 := okw_f o2 f2 (by decide)
  have e62 : g2 0 62 = gm 0 62 := okw_f o2 f2 (by decide)
  have e73 : g2 0 73 = gm 0 73 := okw_f o2 f2 (by decide)
  refine ⟨fun i hi => ?_, ?_, ?_, ?_⟩
  · rw [e1] at hi
    exact (y1 i hi).c (okw_c o1 f1 (by decide)) (okw_c o1 f1 (by decide)) (okw_c o1 f1 (by decide)) (okw_c o1 f1 (by decide)) (okw_c o2 f2 (by decide))
  · rw [okw_f (k := 6) (j := 11) o1 f1 (by decide), okw_f (k := 0) (j := 52) o2 f2 (by decide)]; exact y2
  · rw [e62]; exact y3.c (okw_c o1 f1 (by decide)) (okw_c o1 f1 (by decide)) (okw_c o1 f1 (by decide)) (okw_c o2 f2 (by decide))
  · rw [e73]; exact y4.c (okw_c o1 f1 (by decide)) (okw_c o1 f1 (by decide)) (okw_c o2 f2 (by decide))
theorem IC.f {A A' : List (Nat × Nat)} {B B' : List Nat} {g gm g1 g2 : gT} (h : IC g gm) (f1 : FW A B g g1) (f2 : FW A' B' gm g2) (o1 : okw [34, 35, 36, 37, 38, 39, 40, 41, 42] [(7, 11)] A B = true) (o2 : okw [48, 49, 50] [(0, 1), (0, 81), (0, 82), (0, 83), (0, 84)] A' B' = true) : IC g1 g2 := by
  obtain ⟨y1, y2, y3, y4⟩ := h
  have e1 : g2 0 1 = gm 0 1 := okw_f o2 f2 (by decide)
  have e62 : g2 0 83 = gm 0 83 := okw_f o2 f2 (by decide)
  have e73 : g2 0 84 = gm 0 84 := okw_f o2 f2 (by decide)
  refine ⟨fun i hi => ?_, ?_, ?_, ?_⟩
  · rw [e1] at hi
    exact (y1 i hi).c (okw_c o1 f1 (by decide)) (okw_c o1 f1 (by decide)) (okw_c o1 f1 (by decide)) (okw_c o1 f1 (by decide)) (okw_c o2 f2 (by decide))
  · rw [okw_f (k := 7) (j := 11) o1 f1 (by decide), okw_f (k := 0) (j := 82) o2 f2 (by decide)]; exact y2
  · rw [e62]; exact y3.c (okw_c o1 f1 (by decide)) (okw_c o1 f1 (by decide)) (okw_c o1 f1 (by decide)) (okw_c o2 f2 (by decide))
  · rw [e73]; exact y4.c (okw_c o1 f1 (by decide)) (okw_c o1 f1 (by decide)) (okw_c o2 f2 (by decide))
theorem FD.f {A A' : List (Nat × Nat)} {B B' : List Nat} {g gm g1 g2 : gT} (h : FD g gm) (f1 : FW A B g g1) (f2 : FW A' B' gm g2) (o1 : okw [] [(8, 8), (8, 9)] A B = true) (o2 : okw [] [(0, 60), (0, 61)] A' B' = true) : FD g1 g2 := by
  unfold FD
  rw [okw_f (k := 8) (j := 8) o1 f1 (by decide), okw_f (k := 8) (j := 9) o1 f1 (by decide), okw_f (k := 0) (j := 60) o2 f2 (by decide), okw_f (k := 0) (j := 61) o2 f2 (by decide)]; exact h
theorem ref_f {A A' : List (Nat × Nat)} {B B' : List Nat} {g gm g1 g2 : gT} (h : ∀ j, j < 3 → g 15 j = gm 14 j) (f1 : FW A B g g1) (f2 : FW A' B' gm g2) (o1 : okw [15] [] A B = true) (o2 : okw [14] [] A' B' = true) : ∀ j, j < 3 → g1 15 j = g2 14 j := by
  rw [okw_c (k := 15) o1 f1 (by decide), okw_c (k := 14) o2 f2 (by decide)]; exact h
/-- nothing of the data is written -/
abbrev okDX (A : List (Nat × Nat)) (B : List Nat) : Bool := okw pcX [(1, 3), (1, 4)] A B && okw [25, 26, 27, 28, 29, 30, 31, 32, 33] [(6, 11)] A B && okw [34, 35, 36, 37, 38, 39, 40, 41, 42] [(7, 11)] A B && okw [] [(8, 8), (8, 9)] A B && okw [15] [] A B
abbrev okDM (A : List (Nat × Nat)) (B : List Nat) : Bool := okw pcM [(0, 1), (0, 2), (0, 3), (0, 4)] A B && okw [12, 36, 43] [(0, 1), (0, 52), (0, 62), (0, 73)] A B && okw [48, 49, 50] [(0, 1), (0, 81), (0, 82), (0, 83), (0, 84)] A B && okw [] [(0, 60), (0, 61)] A B && okw [14] [] A B
theorem b_and {a b : Bool} (h : (a && b) = true) : a = true ∧ b = true := Bool.and_eq_true_iff.mp h
theorem cd_fr {A A' : List (Nat × Nat)} {B B' : List Nat} {g gm g1 g2 : gT} (hI : zI MT gm) (h : CD g gm) (f1 : FW A B g g1) (f2 : FW A' B' gm g2) (o1 : okDX A B = true) (o2 : okDM A' B' = true) : CD g1 g2 := by
  obtain ⟨y1, y2, y3, y4, y5⟩ := h
  obtain ⟨o1, o15⟩ := b_and o1
  obtain ⟨o1, o14⟩ := b_and o1
  obtain ⟨o1, o13⟩ := b_and o1
  obtain ⟨o11, o12⟩ := b_and o1
  obtain ⟨o2, o25⟩ := b_and o2
  obtain ⟨o2, o24⟩ := b_and o2
  obtain ⟨o2, o23⟩ := b_and o2
  obtain ⟨o21, o22⟩ := b_and o2
  refine ⟨y1.f hI f1 f2 o11 o21, y2.f f1 f2 o12 o22, fun h => ?_, ref_f y4 f1 f2 o15 o25, y5.f f1 f2 o14 o24⟩
  rw [okw_f (k := 0) (j := 81) o23 f2 (by decide)] at h
  exact (y3 h).f f1 f2 o13 o23
end
section
/-! ===== a new house: both hold the same ===== -/
/-- what a text tells, in both -/
theorem lc_house {b : Nat → Int32} {n P i : Nat} {g gm : gT} (hI : zI MT gm) (hX : LX b n P (57 + i) g) (hM : LM b n P i (fun k => gm (cpk k))) : LC i g gm := by
  obtain ⟨x1, x2, x3, x4⟩ := hX
  obtain ⟨y2, y3, y4, y5, y6, y7, y8, y9, y10, y11, y12, y13, y14⟩ := hM
  replace y13 : (gm 8 i).toInt = ((leA b n P).length : Int) := y13
  replace y14 : ∀ j (hj : j < (leA b n P).length), (gm 9 (6 * i + j)).toInt = (leA b n P)[j] := y14
  have x4 : ∀ j (hj : j < (leA b n P).length), (g (81 + i) j).toInt = (leA b n P)[j] := fun j hj => by
    have := x4 j hj
    rw [show 57 + i + 24 = 81 + i by omega] at this
    exact this
  refine ⟨⟨?_, ?_, ?_, ?_⟩, ⟨?_, ?_, ?_, ?_⟩, ?_, fun k hk => ?_⟩
  · exact ic_eq.mpr ((x1 3 (by decide) (by decide)).trans y2.symm)
  · exact ic_eq.mpr ((x1 4 (by decide) (by decide)).trans y3.symm)
  · exact ic_eq.mpr ((x1 5 (by decide) (by decide)).trans y4.symm)
  · exact ic_eq.mpr ((x1 8 (by decide) (by decide)).trans y7.symm)
  · exact ic_eq.mpr ((x1 9 (by decide) (by decide)).trans y8.symm)
  · exact ic_eq.mpr ((x1 10 (by decide) (by decide)).trans y9.symm)
  · exact ic_eq.mpr ((x1 12 (by decide) (by decide)).trans y11.symm)
  · exact ic_eq.mpr (x2.trans y13.symm)
  · rw [x3, wSn_m y14 _ (by omega)]
    rw [List.take_of_length_le (by omega)]
  · exact ic_eq.mpr ((x4 k (by omega)).trans (y14 k (by omega)).symm)
theorem rc_house {b : Nat → Int32} {n m : Nat} {ρ : Nat → Nat} {u v : Int} {g gm : gT} (hX : RX b n m ρ u (g 20) (g 19)) (hM : RM b n m ρ v (gm 10) (gm 11)) (hρ : ∀ r, r < m → ∃ q, xs b n xF 6 0 [] (ρ r) = .ok q) : RC m g gm := by
  obtain ⟨x1, x2, x3⟩ := hX
  obtain ⟨y1, y2, y3⟩ := hM
  refine ⟨fun r => xc b n (ρ r), oR b n ρ, oM b n ρ, x1, fun r hr => ⟨rfl, x3 r hr, y1 r hr, y3 r hr, ?_⟩⟩
  obtain ⟨q, hq⟩ := hρ r hr
  show rp (xc b n (ρ r)) 0 1
  unfold xc
  rw [hq]
  exact (xs_rp xF 6 0 [] _ q.1 q.2 hq (by decide) 0).2.2.2.2.2.2.1 rfl (by decide)
/-- the rules that stand were read -/
theorem ho_rules {b : Nat → Int32} {n : Nat} : ∀ (f : Nat) (t : tS) (D : dT) (P : Nat) (t' : tS), hoS b n f t P = .ok t' → (∀ r, r < t.2.1 → ∃ q, xs b n xF 6 0 [] (D.2.1 r) = .ok q) → ∀ r, r < t'.2.1 → ∃ q, xs b n xF 6 0 [] ((hoD b n f t D P).2.1 r) = .ok q := by
  intro f
  induction f with
  | zero => intro t D P t' h; exact nomatch h
  | succ f ih =>
    intro t D P t' h hD
    unfold hoS at h
    unfold hoD
    by_cases k0 : tK b n P = 0
    · rw [if_pos k0] at h ⊢
      cases h; exact hD
    rw [if_neg k0] at h ⊢
    cases hli : liS b n t P with
    | error p => rw [hli] at h; exact nomatch h
    | ok q =>
      rw [hli] at h
      have h : hoS b n f q.1 q.2 = .ok t' := h
      show ∀ r, r < t'.2.1 → ∃ q1, xs b n xF 6 0 [] ((hoD b n f q.1 (liD b n t D P) q.2).2.1 r) = .ok q1
      refine ih q.1 (liD b n t D P) q.2 t' h ?_
      have fn : ∀ {r : sR} {t1 : tS}, fnS b n r t1 = .ok q → q.1 = t1 ∧ ∃ Q, r = .ok Q := by
        intro r t1 e
        unfold fnS at e
        cases hr : r with
        | error p => rw [hr] at e; exact nomatch e
        | ok Q =>
          refine ⟨?_, Q, rfl⟩
          rw [hr] at e
          split at e
          · exact nomatch e
          · cases e; rfl
      unfold liS at hli
      unfold liD
      split at hli
      · rename_i w
        rw [if_pos w]
        obtain ⟨e1, -⟩ := fn hli
        rw [e1]; exact hD
      · rename_i w5
        rw [if_neg w5]
        split at hli
        · rename_i w
          rw [if_pos w]
          obtain ⟨e1, -⟩ := fn hli
          rw [e1]; exact hD
        · rename_i w11
          rw [if_neg w11]
          split at hli
          · rename_i w
            rw [if_pos w]
            obtain ⟨e1, -⟩ := fn hli
            rw [e1]; exact hD
          · rename_i w12
            rw [if_neg w12]
            split at hli
            · rename_i w
              rw [if_pos w]
              obtain ⟨e1, Q, e2⟩ := fn hli
              rw [e1]
              intro r hr
              have hr : r < t.2.1 + 1 := hr
              show ∃ q1, xs b n xF 6 0 [] (upN D.2.1 t.2.1 (nx b n P) r) = .ok q1
              by_cases er : r = t.2.1
              · rw [er, upN_at]
                split at e2
                · unfold xsP at e2
                  cases hx : xs b n xF 6 0 [] (nx b n P) with
                  | error p => rw [hx] at e2; exact nomatch e2
                  | ok q1 => exact ⟨q1, rfl⟩
                · exact nomatch e2
              · rw [upN_ne er]; exact hD r (by omega)
            · exact nomatch hli
theorem Fr.fw {A B : List Nat} {g g1 : gT} (h : Fr A B g g1) : FW (A.map (fun j => (0, j))) B g g1 := by
  intro k j hB hA
  by_cases h0 : k = 0
  · subst h0
    exact h.1 j (fun hj => hA (List.mem_map.mpr ⟨j, hj, rfl⟩))
  · rw [h.2 k h0 hB]
set_option maxHeartbeats 4000000 in
theorem cd_house {fu : Nat} (hfu : 1180591620717411303424 ≤ fu) {g gm g1 g2 : gT} {L Lm L1 L2 : lT} {p1 : Int32} {rx : Except String Int32} {rm : Int32} (h : CP g gm) (hd : CD g gm) (e1 : fX11_house_0 fu p1 g L = some (rx, (g1, L1))) (e2 : fX12_house fu p1 gm Lm = some (rm, (g2, L2))) (hI2' : zI MT g2) : CD g1 g2 := by
  obtain ⟨hI, hI2, hJ2, hT, h5, h6, ⟨k1, k2, k3, k4, k5⟩, z20, z23⟩ := h
  have q18 := hI2 0 18 0 700 rfl
  have e13 : (g 0 13).toInt = (gm 0 18).toInt := by rw [hT.1]
  by_cases c : 0 ≤ p1.toInt ∧ p1.toInt ≤ (gm 0 18).toInt
  · obtain ⟨n, hn⟩ : ∃ n : Nat, p1.toInt = (n : Int) := ⟨p1.toInt.toNat, by omega⟩
    have z4 := pc_ex (l_house hfu (b := gm 13) (n := n) (L0 := L) hI hn (by omega) (fun j hj => hT.2 j (by omega)) z23) _ _ _ e1
    have y4 := pc_ex (t_house hfu (b := gm 13) (n := n) (L0 := Lm) hI2 hn (by omega) (fun j hj => rfl)) _ _ _ e2
    have hρ := ho_rules (b := gm 13) (n := n) 702 (0, 0, false, false) D0 (sk (gm 13) n 0)
    clear e1 e2
    revert y4 z4 hρ
    generalize hoS (gm 13) n 702 (0, 0, false, false) (sk (gm 13) n 0) = R
    generalize hoD (gm 13) n 702 (0, 0, false, false) D0 (sk (gm 13) n 0) = DD
    intro z4 y4 hρ
    cases R with
    | error p =>
      obtain ⟨-, z2, z3, z5, -⟩ := z4
      obtain ⟨-, y2, y3⟩ := y4
      obtain ⟨d1, d2, d3, d4, d5⟩ := hd
      have f2 := y2.fw
      have q1 := hI2 0 1 0 12 rfl
      have zk : ∀ k, k < 69 ∨ 81 ≤ k ∧ k < 93 → k ∉ [0, 2, 4, 5, 15, 22, 23] → g1 k = g k := z2
      have f1 : FW ([(0, 13), (0, 14)] ++ []) ([2, 4, 5, 15, 22, 23, 69, 70, 71, 72, 73, 74, 75, 76, 77, 78, 79, 80] ++ []) (fun k j => if k < 69 ∨ 81 ≤ k ∧ k < 93 then g k j else g1 k j) g1 := by
        intro k j hB hA
        show g1 k j = if k < 69 ∨ 81 ≤ k ∧ k < 93 then g k j else g1 k j
        by_cases hk : k < 69 ∨ 81 ≤ k ∧ k < 93
        · rw [if_pos hk]
          by_cases h0 : k = 0
          · subst h0
            exact z3 j (fun hj => hA (by
              rcases List.mem_cons.mp hj with e | e
              · rw [e]; decide
              · rw [List.mem_singleton.mp e]; decide))
          · rw [zk k hk (fun hm => hB ?_)]
            revert hm
            simp only [List.mem_cons, List.not_mem_nil, or_false, List.append_nil]
            omega
        · rw [if_neg hk]
      have dd : ∀ {k : Nat}, (k < 69 ∨ 81 ≤ k ∧ k < 93) → (fun k j => if k < 69 ∨ 81 ≤ k ∧ k < 93 then g k j else g1 k j : gT) k = g k := fun hk => funext fun j => if_pos hk
      have b1 : PD (fun k j => if k < 69 ∨ 81 ≤ k ∧ k < 93 then g k j else g1 k j) gm := by
        obtain ⟨a1, a2, a3, a4⟩ := d1
        refine ⟨fun i hi => (a1 i hi).c (dd (by omega)) (dd (by omega)) (fun _ _ _ => rfl), ?_, ?_, a4.c (dd (by omega)) (dd (by omega)) rfl rfl⟩
        · rw [dd (by omega)]; exact a2
        · rw [dd (by omega)]; exact a3
      have b2 : HD (fun k j => if k < 69 ∨ 81 ≤ k ∧ k < 93 then g k j else g1 k j) gm := by
        obtain ⟨a1, a2, a3, a4⟩ := d2
        refine ⟨fun i hi => (a1 i hi).c (dd (by omega)) (dd (by omega)) (dd (by omega)) (dd (by omega)) rfl, ?_, a3.c (dd (by omega)) (dd (by omega)) (dd (by omega)) rfl, a4.c (dd (by omega)) (dd (by omega)) rfl⟩
        rw [dd (by omega)]; exact a2
      have b3 : ¬ gm 0 81 = 0 → IC (fun k j => if k < 69 ∨ 81 ≤ k ∧ k < 93 then g k j else g1 k j) gm := by
        intro h
        obtain ⟨a1, a2, a3, a4⟩ := d3 h
        refine ⟨fun i hi => (a1 i hi).c (dd (by omega)) (dd (by omega)) (dd (by omega)) (dd (by omega)) rfl, ?_, a3.c (dd (by omega)) (dd (by omega)) (dd (by omega)) rfl, a4.c (dd (by omega)) (dd (by omega)) rfl⟩
        rw [dd (by omega)]; exact a2
      have b5 : FD (fun k j => if k < 69 ∨ 81 ≤ k ∧ k < 93 then g k j else g1 k j) gm := by
        unfold FD; rw [dd (by omega)]; exact d5
      refine ⟨b1.f hI2 f1 f2 (by decide) (by decide), b2.f f1 f2 (by decide) (by decide), fun h => ?_, fun j hj => ?_, b5.f f1 f2 (by decide) (by decide)⟩
      · rw [y2.1 81 (by decide)] at h
        exact (b3 h).f f1 f2 (by decide) (by decide)
      · rw [z5, y3]
        unfold upd
        by_cases j0 : j = 0
        · rw [if_pos j0, if_pos j0, d4 0 (by decide)]
        · rw [if_neg j0, if_neg j0]; exact d4 j hj
    | ok t =>
      obtain ⟨z1, z2, z3, z4, z5, z6, z7, z8, z9, z10, z11, z12, z13, ⟨p1, p2, p3, p4⟩, z14, z15⟩ := z4
      obtain ⟨y1, y2, y3, y4, y5, y6, y7, y8, y9, ⟨q1, q2, q3, u, q4⟩⟩ := y4
      obtain ⟨d1, d2, d3, d4, d5⟩ := hd
      have hl : ∀ i : Nat, (i : Int) < (g2 0 1).toInt → i < t.1 := fun i hi => by omega
      refine ⟨⟨fun i hi => lc_house hI2' (p1 i (hl i hi)) (q1 i (hl i hi)), ic_eq.mpr (p2.trans q2.symm), ic_eq.mpr (p3.trans q3.symm), ?_⟩, ⟨fun i hi => ?_, ?_, ?_, ?_⟩, fun h => absurd y2 h, ?_, ?_⟩
      · have e : (g2 0 2).toInt.toNat = t.2.1 := by omega
        rw [e]
        exact rc_house p4 q4 (hρ t rfl (fun r hr => absurd hr (Nat.not_lt_zero _)))
      · obtain ⟨x1, x2, x3, x4⟩ := z14 i (by have := hl i hi; omega)
        have hx := (p1 i (hl i hi)).1
        obtain ⟨-, -, -, m5, m6, -, -, -, m10, -, m12, -⟩ := q1 i (hl i hi)
        refine ⟨?_, ?_, ?_, ?_⟩
        · rw [x1]; exact ic_eq.mpr ((hx 6 (by decide) (by decide)).trans m5.symm)
        · show g1 26 i = _
          rw [x2]; exact ic_eq.mpr ((hx 13 (by decide) (by decide)).trans m12.symm)
        · show g1 27 i = _
          rw [x3]; exact ic_eq.mpr ((hx 7 (by decide) (by decide)).trans m6.symm)
        · show g1 28 i = _
          rw [x4]; exact ic_eq.mpr ((hx 11 (by decide) (by decide)).trans m10.symm)
      · rw [z7, y5]
      · intro k hk
        rw [y6] at hk
        exact absurd hk (by show ¬ (k : Int) < 0; omega)
      · intro k hk
        rw [y7] at hk
        exact absurd hk (by show ¬ (k : Int) < 0; omega)
      · intro j hj
        rw [z10, y9.2 14 (by decide) (by decide)]; exact d4 j hj
      · unfold FD
        rw [z15, y9.1 60 (by decide), y9.1 61 (by decide)]; exact d5
  · have c' : p1.toInt < 0 ∨ (gm 0 18).toInt < p1.toInt := by omega
    rw [m_refused c'] at e2
    cases e2
    have e : fX11_house_0 fu p1 g L = some (.error "java/lang/IllegalArgumentException", (g, L)) := by
      unfold fX11_house_0 fX11_house_0_p12
      by_cases c1 : p1 < 0
      · exact if_pos c1
      · rw [if_neg c1]
        have c1 := icc_nlt (m := p1.toInt) (n := 0) rfl (by decide) c1
        exact if_neg (fun hh => by have := icc_le (m := p1.toInt) (n := (g 0 13).toInt) rfl rfl hh; omega)
    rw [e] at e1
    cases e1
    have f2 : FW [(0, 0)] [] gm (upd2 (upd2 gm 0 0 0) 0 0 1) := by
      intro k j _ hA
      by_cases hk : k = 0
      · subst hk
        have hj : j ≠ 0 := fun e => hA (by rw [e]; decide)
        rw [upd2_nj hj, upd2_nj hj]
      · rw [upd2_nk hk, upd2_nk hk]
    exact cd_fr hI2 hd FW.refl f2 (A := []) (B := []) (by decide) (by decide)
end
section
/-! ===== the class's trials put back what they changed ===== -/
/-- places that trials may change for a while -/
def cY (k j : Nat) : Prop := (25 ≤ k ∧ k ≤ 28 ∧ j < 12) ∨ (k = 6 ∧ j = 11) ∨ (57 ≤ k ∧ k ≤ 68) ∨ (k = 8 ∧ (j = 8 ∨ j = 9))
/-- but for S they are as they were -/
def Rs (S : Nat → Nat → Prop) (g g1 : gT) : Prop := ∀ k j, cY k j → ¬ S k j → g1 k j = g k j
abbrev S0 : Nat → Nat → Prop := fun _ _ => False
abbrev S1 (k i : Nat) : Nat → Nat → Prop := fun a b => a = k ∧ b = i
theorem Rs.refl {S : Nat → Nat → Prop} {g : gT} : Rs S g g := fun _ _ _ _ => rfl
theorem Rs.tr {S : Nat → Nat → Prop} {g g1 g2 : gT} (h1 : Rs S g g1) (h2 : Rs S g1 g2) : Rs S g g2 := fun k j a c => (h2 k j a c).trans (h1 k j a c)
theorem Rs.mo {S S' : Nat → Nat → Prop} {g g1 : gT} (h : Rs S g g1) (hS : ∀ k j, S k j → S' k j) : Rs S' g g1 := fun k j a c => h k j a (fun hs => c (hS k j hs))
theorem Rs.m0 {S : Nat → Nat → Prop} {g g1 : gT} (h : Rs S0 g g1) : Rs S g g1 := h.mo (fun _ _ h => absurd h id)
theorem Rs.st {S : Nat → Nat → Prop} {g g1 g2 : gT} {k i : Nat} {x : Int32} (h : Rs S g g1) (e : g2 = upd2 g1 k i x) (hS : S k i) : Rs S g g2 := fun a b hc hn => by
  rw [e]
  by_cases ha : a = k
  · subst ha
    by_cases hb : b = i
    · subst hb; exact absurd hS hn
    · rw [upd2_nj hb]; exact h a b hc hn
  · rw [upd2_nk ha]; exact h a b hc hn
/-- written elsewhere -/
theorem Rs.so {S : Nat → Nat → Prop} {g g1 g2 : gT} {k i : Nat} {x : Int32} (h : Rs S g g1) (e : g2 = upd2 g1 k i x) (hS : ¬ cY k i) : Rs S g g2 := fun a b hc hn => by
  rw [e]
  by_cases ha : a = k
  · subst ha
    by_cases hb : b = i
    · subst hb; exact absurd hc hS
    · rw [upd2_nj hb]; exact h a b hc hn
  · rw [upd2_nk ha]; exact h a b hc hn
abbrev rxC : List Nat := [25, 26, 27, 28, 57, 58, 59, 60, 61, 62, 63, 64, 65, 66, 67, 68]
theorem rxC_m : ∀ k, k < 69 → (25 ≤ k ∧ k ≤ 28) ∨ (57 ≤ k ∧ k ≤ 68) → k ∈ rxC := by decide
abbrev okR (A : List (Nat × Nat)) (B : List Nat) : Prop := okw rxC [(6, 11), (8, 8), (8, 9)] A B = true
theorem Rs.f {S : Nat → Nat → Prop} {A : List (Nat × Nat)} {B : List Nat} {g g0 g1 : gT} (h : Rs S g g0) (f : FW A B g0 g1) (o : okR A B) : Rs S g g1 := fun k j hc hn => by
  rw [← h k j hc hn]
  rcases hc with ⟨a, b, -⟩ | ⟨rfl, rfl⟩ | ⟨a, b⟩ | ⟨rfl, rfl | rfl⟩
  · rw [okw_c o f (rxC_m k (by omega) (Or.inl ⟨a, b⟩))]
  · exact okw_f o f (by decide)
  · rw [okw_c o f (rxC_m k (by omega) (Or.inr ⟨a, b⟩))]
  · exact okw_f o f (by decide)
  · exact okw_f o f (by decide)
/-- put back -/
theorem Rs.bk {S : Nat → Nat → Prop} {g g1 g2 : gT} {k i : Nat} {x : Int32} (h : Rs S g g1) (e : g2 = upd2 g1 k i x) (hx : x = g k i) : Rs (fun a b => S a b ∧ ¬ (a = k ∧ b = i)) g g2 := fun a b hc hn => by
  rw [e]
  by_cases ha : a = k
  · subst ha
    by_cases hb : b = i
    · subst hb; rw [upd2_at]; exact hx
    · rw [upd2_nj hb]; exact h a b hc (fun hs => hn ⟨hs, fun h => hb h.2⟩)
  · rw [upd2_nk ha]; exact h a b hc (fun hs => hn ⟨hs, fun h => ha h.1⟩)
theorem Rs.b1 {g g1 g2 : gT} {k i : Nat} {x : Int32} (h : Rs (S1 k i) g g1) (e : g2 = upd2 g1 k i x) (hx : x = g k i) : Rs S0 g g2 := (h.bk e hx).mo (fun _ _ h => h.2 h.1)
section RX
variable {fu : Nat} {g : gT} {L : lT}
theorem rs_runMore {p1 p2 : Int32} (h9 : g 8 9 = -1) : Pc (fX10_runMore_9 fu p1 p2 g L) (fun _ g1 _ => Rs S0 g g1) := by
  unfold fX10_runMore_9
  refine pc_ck (fun _ _ => pc_lti (fun x ex => pc_ck (fun _ _ => pc_st (fun g2 e2 => pc_st (fun g3 e3 => pc_cb (pc_kp (w_fX1_runFrom_8 _ _ _ _ _ FW.refl)) (fun _ g5 L5 f5 => pc_st (fun g8 e8 => pc_ck (fun _ _ => pc_st (fun g9 e9 => pc_some ?_)))))))))
  have r2 : Rs (S1 25 p1.toNatClampNeg) g g2 := Rs.refl.st e2 ⟨rfl, rfl⟩
  have r5 : Rs (S1 8 9) g2 g5 := (Rs.refl.st e3 ⟨rfl, rfl⟩).f f5 (by decide)
  have r8 : Rs S0 g2 g8 := r5.b1 e8 (by rw [e2]; exact h9.symm)
  exact (r2.tr r8.m0).b1 e9 ex
theorem rs_reaches {p1 p2 : Int32} (h9 : g 8 9 = -1) : Pc (fX10_leastThatReaches_9 fu p1 p2 g L) (fun _ g1 _ => Rs S0 g g1) := by
  unfold fX10_leastThatReaches_9 fX10_leastThatReaches_9_l6
  refine pc_cb (pc_kp (w_fX10_keepEnds_9 _ _ _ _ FW.refl)) (fun _ g2 L2 f2 => ?_)
  refine pc_loop (fun v => Rs S0 g v.2.1) (fun k hk v hv => ?_) (Rs.refl.f f2 (by decide))
  obtain ⟨v3, g', L'⟩ := v
  replace hv : Rs S0 g g' := hv
  have h9' : g' 8 9 = -1 := (hv 8 9 (Or.inr (Or.inr (Or.inr ⟨rfl, Or.inr rfl⟩))) id).trans h9
  show Pc (fX10_leastThatReaches_9_s6 fu p1 p2 k v3 g' L') _
  unfold fX10_leastThatReaches_9_s6
  refine pc_ite (fun _ => pc_some hv) (fun _ => pc_cb (rs_runMore h9') (fun _ g7 L7 f7 => pc_ck (fun _ _ => pc_ck (fun _ _ => pc_ite (fun _ => hk _ (hv.tr f7)) (fun _ => pc_some (hv.tr f7))))))
theorem rs_slack {p1 : Int32} (h9 : g 8 9 = -1) : Pc (fX10_mostThatDies_9 fu p1 g L) (fun _ g1 _ => Rs S0 g g1) := by
  unfold fX10_mostThatDies_9 fX10_mostThatDies_9_l7
  refine pc_cb (pc_kp (w_fX10_keepEnds_9 _ _ _ _ FW.refl)) (fun _ g2 L2 f2 => ?_)
  refine pc_loop (fun v => Rs S0 g v.2.1) (fun k hk v hv => ?_) (Rs.refl.f f2 (by decide))
  obtain ⟨v3, g', L'⟩ := v
  replace hv : Rs S0 g g' := hv
  have h9' : g' 8 9 = -1 := (hv 8 9 (Or.inr (Or.inr (Or.inr ⟨rfl, Or.inr rfl⟩))) id).trans h9
  show Pc (fX10_mostThatDies_9_s7 fu p1 k v3 g' L') _
  unfold fX10_mostThatDies_9_s7
  refine pc_ite (fun _ => pc_some hv) (fun _ => pc_cb (rs_runMore h9') (fun _ g7 L7 f7 => pc_cb (pc_kp (w_fX10_laterBits_9 _ _ _ _ FW.refl)) (fun _ g11 L11 f11 => ?_)))
  have hv2 := (hv.tr f7).f f11 (by decide)
  exact pc_ite (fun _ => pc_some hv2) (fun _ => hk _ hv2)
/-- an exchange, something, the same exchange -/
theorem exch_x {p1 p2 : Int32} : Pc (fX10_exchange_9 fu p1 p2 g L) (fun _ g1 _ => (0 ≤ p1.toInt ∧ p1.toInt < 12) ∧ (0 ≤ p2.toInt ∧ p2.toInt < 12) ∧ g1 = upd2 (upd2 g 25 p1.toNatClampNeg (g 25 p2.toNatClampNeg)) 25 p2.toNatClampNeg (g 25 p1.toNatClampNeg)) := by
  unfold fX10_exchange_9
  refine pc_ck (fun a1 a2 => pc_lti (fun x ex => pc_ck (fun b1 b2 => pc_ck (fun _ _ => pc_st (fun g2 e2 => pc_ck (fun _ _ => pc_st (fun g3 e3 => pc_some ⟨⟨a1, a2⟩, ⟨b1, b2⟩, ?_⟩)))))))
  rw [e3, e2, ex]
theorem rs_swapped {p1 : Int32} : Pc (fX10_swapped_9 fu p1 g L) (fun _ g1 _ => Rs S0 g g1) := by
  unfold fX10_swapped_9 fX10_swapped_9_l18
  refine pc_cb (pc_kp (w_fX1_lostFrom_8 _ _ _ _ _ FW.refl)) (fun x1 g2 L2 f2 => pc_cb (pc_kp (w_fX4_clear_13 _ _ _ _ FW.refl)) (fun _ g6 L6 f6 => ?_))
  refine pc_loop (fun v => Rs S0 g v.2.1) (fun k hk v hv => ?_) ((Rs.refl.f f2 (by decide)).f f6 (by decide))
  obtain ⟨v3, g', L'⟩ := v
  replace hv : Rs S0 g g' := hv
  show Pc (fX10_swapped_9_s18 fu p1 x1 k v3 g' L') _
  unfold fX10_swapped_9_s18 fX10_swapped_9_p120 fX10_swapped_9_p121
  refine pc_cb (pc_kp (w_fX10_lessonCount_9 _ _ _ _ FW.refl)) (fun _ g10 L10 f10 => ?_)
  have h10 := hv.f f10 (by decide)
  refine pc_ite (fun _ => pc_ite (fun _ => pc_some h10) (fun _ => pc_ite (fun _ => pc_some h10) (fun _ => pc_cb (pc_kp (w_fX4_told_13 _ _ _ _ _ FW.refl)) (fun _ gt Lt ft => pc_some (h10.f ft (by decide)))))) (fun _ => pc_lti (fun x20 _ => ?_))
  unfold fX10_swapped_9_l31
  refine pc_loop (fun v => Rs S0 g v.2.1) (fun k31 hk31 v hv => ?_) h10
  obtain ⟨v4, g'', L''⟩ := v
  replace hv : Rs S0 g g'' := hv
  show Pc (fX10_swapped_9_s31 fu k p1 x1 v3 k31 v4 g'' L'') _
  unfold fX10_swapped_9_s31
  refine pc_cb (pc_kp (w_fX10_lessonCount_9 _ _ _ _ FW.refl)) (fun _ ga La fa => ?_)
  have ha := hv.f fa (by decide)
  refine pc_ite (fun _ => hk _ ha) (fun _ => pc_cb exch_x (fun _ gb Lb fb => pc_cb (pc_kp (w_fX1_lostFrom_8 _ _ _ _ _ FW.refl)) (fun _ gc Lc fc => pc_cb (pc_kp (w_fX4_offer_13 _ _ _ _ _ _ FW.refl)) (fun _ gd Ld fd => pc_cb exch_x (fun _ ge Le fe => hk31 _ (ha.tr ?_))))))
  obtain ⟨⟨a1, a2⟩, ⟨b1, b2⟩, eb⟩ := fb
  obtain ⟨-, -, ee⟩ := fe
  have h1 : v3.toNatClampNeg < 12 := by rw [nc]; omega
  have h2 : v4.toNatClampNeg < 12 := by rw [nc]; omega
  have hd : Rs S0 gb gd := (Rs.refl.f fc (by decide)).f fd (by decide)
  generalize v3.toNatClampNeg = i at *
  generalize v4.toNatClampNeg = j at *
  have di : gd 25 i = gb 25 i := hd 25 i (Or.inl ⟨by decide, by decide, h1⟩) id
  have dj : gd 25 j = gb 25 j := hd 25 j (Or.inl ⟨by decide, by decide, h2⟩) id
  have bj : gb 25 j = ga 25 i := by rw [eb, upd2_at]
  have bi : gb 25 i = ga 25 j := by
    rw [eb]
    by_cases e : i = j
    · rw [e, upd2_at]
    · rw [upd2_nj e, upd2_at]
  intro a b hc hn
  show ge a b = ga a b
  rw [ee]
  by_cases hk : a = 25
  · subst hk
    by_cases hj : b = j
    · rw [hj, upd2_at, di, bi]
    · rw [upd2_nj hj]
      by_cases hi : b = i
      · rw [hi, upd2_at, dj, bj]
      · rw [upd2_nj hi, hd 25 b hc id, eb, upd2_nj hj, upd2_nj hi]
  · rw [upd2_nk hk, upd2_nk hk, hd a b hc id, eb, upd2_nk hk, upd2_nk hk]
theorem row_x {p1 : Int32} : ∃ q, fX3_row_6 fu p1 g L = some (q, (g, L)) ∧ (25 ≤ q ∧ q ≤ 28) ∧ ∀ fu' g' L', fX3_row_6 fu' p1 g' L' = some (q, (g', L')) := by
  unfold fX3_row_6
  by_cases c0 : p1.toInt = 0
  · exact ⟨25, by rw [if_pos c0], by decide, fun _ _ _ => by rw [if_pos c0]⟩
  by_cases c1 : p1.toInt = 1
  · exact ⟨26, by rw [if_neg c0, if_pos c1], by decide, fun _ _ _ => by rw [if_neg c0, if_pos c1]⟩
  by_cases c2 : p1.toInt = 2
  · exact ⟨27, by rw [if_neg c0, if_neg c1, if_pos c2], by decide, fun _ _ _ => by rw [if_neg c0, if_neg c1, if_pos c2]⟩
  · exact ⟨28, by rw [if_neg c0, if_neg c1, if_neg c2], by decide, fun _ _ _ => by rw [if_neg c0, if_neg c1, if_neg c2]⟩
theorem put_x {p1 p2 p3 : Int32} {q : Nat} (hq : ∀ fu' g' L', fX3_row_6 fu' p1 g' L' = some (q, (g', L'))) : Pc (fX3_put_6 fu p1 p2 p3 g L) (fun _ g1 _ => g1 = upd2 g q p2.toNatClampNeg p3) := by
  unfold fX3_put_6
  rw [hq]
  refine pc_ckr (fun _ _ => pc_ck (fun _ _ => pc_st (fun g1 e1 => pc_some e1)))
theorem value_x {p1 p2 : Int32} {q : Nat} (hq : ∀ fu' g' L', fX3_row_6 fu' p1 g' L' = some (q, (g', L'))) : Pc (fX3_value_6 fu p1 p2 g L) (fun x g1 _ => g1 = g ∧ x = g q p2.toNatClampNeg) := by
  unfold fX3_value_6
  rw [hq]
  refine pc_ckr (fun _ _ => pc_ck (fun _ _ => pc_some ⟨rfl, rfl⟩))
theorem rs_leastBy {p1 p2 p3 : Int32} : Pc (fX10_leastBy_9 fu p1 p2 p3 g L) (fun _ g1 _ => Rs S0 g g1) := by
  obtain ⟨q, -, hq, hrow⟩ := row_x (fu := fu) (g := g) (L := L) (p1 := p1)
  unfold fX10_leastBy_9 fX10_leastBy_9_l29
  refine pc_cb (value_x hrow) (fun x1 g2 L2 hv => ?_)
  obtain ⟨rfl, hx1⟩ := hv
  refine pc_cb (pc_kp (w_fX1_runFrom_8 _ _ _ _ _ FW.refl)) (fun _ g6 L6 f6 => pc_cb (pc_kp (w_fX4_clear_13 _ _ _ _ FW.refl)) (fun _ g10 L10 f10 => ?_))
  refine pc_loop (fun v => Rs (S1 q p2.toNatClampNeg) g2 v.2.1) (fun k hk v hv => ?_) ((Rs.refl.f f6 (by decide)).f f10 (by decide))
  obtain ⟨v5, g', L'⟩ := v
  replace hv : Rs (S1 q p2.toNatClampNeg) g2 g' := hv
  show Pc (fX10_leastBy_9_s29 fu p1 p2 p3 x1 k v5 g' L') _
  unfold fX10_leastBy_9_s29
  refine pc_cb (pc_kp (w_fX11_mostOf _ _ _ _ _ FW.refl)) (fun x13 g14 L14 f14 => ?_)
  have h14 := hv.f f14 (by decide)
  refine pc_ite (fun _ => pc_cb (put_x hrow) (fun _ g19 L19 f19 => pc_cb (pc_kp (w_fX4_told_13 _ _ _ _ _ FW.refl)) (fun _ g23 L23 f23 => pc_some ((h14.b1 f19 hx1).f f23 (by decide))))) (fun _ => pc_cb (put_x hrow) (fun _ g27 L27 f27 => pc_cb (pc_kp (w_fX1_lostFrom_8 _ _ _ _ _ FW.refl)) (fun _ g31 L31 f31 => pc_cb (pc_kp (w_fX4_offer_13 _ _ _ _ _ _ FW.refl)) (fun _ g35 L35 f35 => hk _ (((h14.st f27 ⟨rfl, rfl⟩).f f31 (by decide)).f f35 (by decide))))))
theorem rs_lostWithout {p1 p2 : Int32} : Pc (fX10_lostWithout_9 fu p1 p2 g L) (fun _ g1 _ => Rs S0 g g1) := by
  unfold fX10_lostWithout_9
  refine pc_ck (fun a1 a2 => pc_lti (fun x1 ex1 => pc_ck (fun b1 b2 => pc_lti (fun x2 ex2 => pc_ck (fun _ _ => pc_st (fun g3 e3 => pc_ck (fun _ _ => pc_st (fun g4 e4 => pc_cb (pc_kp (w_fX1_lostFrom_8 _ _ _ _ _ FW.refl)) (fun _ g6 L6 f6 => pc_ck (fun _ _ => pc_st (fun g9 e9 => pc_ck (fun _ _ => pc_st (fun g10 e10 => pc_some ?_)))))))))))))
  generalize p1.toNatClampNeg = i at *
  generalize p2.toNatClampNeg = j at *
  have r4 : Rs (fun a b => a = 25 ∧ (b = i ∨ b = j)) g g4 := (Rs.refl.st e3 ⟨rfl, Or.inl rfl⟩).st e4 ⟨rfl, Or.inr rfl⟩
  have r9 := (r4.f f6 (by decide)).bk e9 ex1
  refine (r9.bk e10 ex2).mo (fun a b h => ?_)
  obtain ⟨⟨⟨h1, h2⟩, h3⟩, h4⟩ := h
  rcases h2 with h2 | h2
  · exact h3 ⟨h1, h2⟩
  · exact h4 ⟨h1, h2⟩
theorem rs_withoutOne : Pc (fX10_withoutOne_9 fu g L) (fun _ g1 _ => Rs S0 g g1) := by
  unfold fX10_withoutOne_9 fX10_withoutOne_9_l9
  refine pc_cb (pc_kp (w_fX4_clear_13 _ _ _ _ FW.refl)) (fun _ g6 L6 f6 => ?_)
  refine pc_loop (fun v => Rs S0 g v.2.1) (fun k hk v hv => ?_) (Rs.refl.f f6 (by decide))
  obtain ⟨v1, g', L'⟩ := v
  replace hv : Rs S0 g g' := hv
  show Pc (fX10_withoutOne_9_s9 fu k v1 g' L') _
  unfold fX10_withoutOne_9_s9
  refine pc_cb (pc_kp (w_fX10_lessonCount_9 _ _ _ _ FW.refl)) (fun _ ga La fa => ?_)
  have ha := hv.f fa (by decide)
  refine pc_ite (fun _ => pc_cb (pc_kp (w_fX4_told_13 _ _ _ _ _ FW.refl)) (fun _ gt Lt ft => pc_some (ha.f ft (by decide)))) (fun _ => pc_cb rs_lostWithout (fun _ gb Lb fb => pc_cb (pc_kp (w_fX4_offer_13 _ _ _ _ _ _ FW.refl)) (fun _ gd Ld fd => hk _ ((ha.tr fb).f fd (by decide)))))
theorem rs_withoutTwo {p1 : Int32} : Pc (fX10_withoutTwo_9 fu p1 g L) (fun _ g1 _ => Rs S0 g g1) := by
  unfold fX10_withoutTwo_9 fX10_withoutTwo_9_l9
  refine pc_cb (pc_kp (w_fX4_clear_13 _ _ _ _ FW.refl)) (fun _ g6 L6 f6 => ?_)
  refine pc_loop (fun v => Rs S0 g v.2.1) (fun k hk v hv => ?_) (Rs.refl.f f6 (by decide))
  obtain ⟨v2, g', L'⟩ := v
  replace hv : Rs S0 g g' := hv
  show Pc (fX10_withoutTwo_9_s9 fu p1 k v2 g' L') _
  unfold fX10_withoutTwo_9_s9
  refine pc_cb (pc_kp (w_fX10_lessonCount_9 _ _ _ _ FW.refl)) (fun _ ga La fa => ?_)
  have ha := hv.f fa (by decide)
  refine pc_ite (fun _ => pc_cb (pc_kp (w_fX4_told_13 _ _ _ _ _ FW.refl)) (fun _ gt Lt ft => pc_some (ha.f ft (by decide)))) (fun _ => pc_lti (fun x14 _ => ?_))
  unfold fX10_withoutTwo_9_l21
  refine pc_loop (fun v => Rs S0 g v.2.1) (fun k21 hk21 v hv => ?_) ha
  obtain ⟨v3, g'', L''⟩ := v
  replace hv : Rs S0 g g'' := hv
  show Pc (fX10_withoutTwo_9_s21 fu k p1 v2 k21 v3 g'' L'') _
  unfold fX10_withoutTwo_9_s21
  refine pc_cb (pc_kp (w_fX10_lessonCount_9 _ _ _ _ FW.refl)) (fun _ gc Lc fc => ?_)
  have hc := hv.f fc (by decide)
  exact pc_ite (fun _ => hk _ hc) (fun _ => pc_cb rs_lostWithout (fun _ gb Lb fb => pc_cb (pc_kp (w_fX4_offer_13 _ _ _ _ _ _ FW.refl)) (fun _ gd Ld fd => hk21 _ ((hc.tr fb).f fd (by decide)))))
theorem rs_lostByRule {p1 : Int32} : Pc (fX10_lostByRule_9 fu p1 g L) (fun _ g1 _ => Rs S0 g g1) := by
  unfold fX10_lostByRule_9
  refine pc_lti (fun x1 ex1 => pc_st (fun g2 e2 => pc_cb (pc_kp (w_fX1_lostFrom_8 _ _ _ _ _ FW.refl)) (fun _ g4 L4 f4 => pc_st (fun g7 e7 => pc_some ?_))))
  exact ((Rs.refl.st e2 ⟨rfl, rfl⟩).f f4 (by decide)).b1 e7 ex1
theorem rs_bestRule : Pc (fX10_bestRule_9 fu g L) (fun _ g1 _ => Rs S0 g g1) := by
  unfold fX10_bestRule_9 fX10_bestRule_9_l9
  refine pc_cb (pc_kp (w_fX4_clear_13 _ _ _ _ FW.refl)) (fun _ g6 L6 f6 => ?_)
  refine pc_loop (fun v => Rs S0 g v.2.1) (fun k hk v hv => ?_) (Rs.refl.f f6 (by decide))
  obtain ⟨v1, g', L'⟩ := v
  replace hv : Rs S0 g g' := hv
  show Pc (fX10_bestRule_9_s9 fu k v1 g' L') _
  unfold fX10_bestRule_9_s9
  refine pc_ite (fun _ => pc_cb (pc_kp (w_fX4_told_13 _ _ _ _ _ FW.refl)) (fun _ gt Lt ft => pc_some (hv.f ft (by decide)))) (fun _ => pc_cb rs_lostByRule (fun _ gb Lb fb => pc_cb (pc_kp (w_fX4_offer_13 _ _ _ _ _ _ FW.refl)) (fun _ gd Ld fd => hk _ ((hv.tr fb).f fd (by decide)))))
theorem cpy_at {f h : Nat → Int32} {j : Nat} : va_cpy f h (Int32.toNatClampNeg 0) (Int32.toNatClampNeg 0) (Int32.toNatClampNeg 12) j = if j < 12 then f j else h j := by
  have e0 : Int32.toNatClampNeg 0 = 0 := rfl
  have e12 : Int32.toNatClampNeg 12 = 12 := rfl
  rw [e0, e12]
  unfold va_cpy
  by_cases hj : j < 12
  · rw [if_pos ⟨Nat.zero_le _, by omega⟩, if_pos hj]
    congr 1; omega
  · rw [if_neg (fun h => hj (by omega)), if_neg hj]
theorem rs_bell {p1 : Int32} : Pc (fX10_worthOfBell_9 fu p1 g L) (fun _ g1 _ => Rs S0 g g1) := by
  unfold fX10_worthOfBell_9 fX10_worthOfBell_9_l29
  refine pc_cb (pc_kp (w_fX1_lostFrom_8 _ _ _ _ _ FW.refl)) (fun x1 g2 L2 f2 => pc_stA (fun g5 e5 => ?_))
  have h2 : Rs S0 g g2 := Rs.refl.f f2 (by decide)
  have h5 : Rs S0 g g5 := fun a b hc hn => by
    rw [e5, updA_ne (by rcases hc with ⟨x, y, -⟩ | ⟨x, -⟩ | ⟨x, y⟩ | ⟨x, -⟩ <;> omega)]; exact h2 a b hc hn
  have s5 : ∀ j, j < 12 → g5 49 j = g 25 j := fun j hj => by
    rw [e5, updA_at, cpy_at, if_pos hj]; exact h2 25 j (Or.inl ⟨by decide, by decide, hj⟩) id
  refine pc_loop (fun v => Rs (fun a _ => a = 25) g v.2.1 ∧ ∀ j, j < 12 → v.2.1 49 j = g 25 j) (fun k hk v hv => ?_) ⟨h5.m0, s5⟩
  obtain ⟨v3, g', L'⟩ := v
  obtain ⟨hv, hs⟩ := hv
  replace hv : Rs (fun a _ => a = 25) g g' := hv
  replace hs : ∀ j, j < 12 → g' 49 j = g 25 j := hs
  show Pc (fX10_worthOfBell_9_s29 fu p1 x1 k v3 g' L') _
  unfold fX10_worthOfBell_9_s29
  refine pc_cb (pc_kp (w_fX10_lessonCount_9 _ _ _ _ FW.refl)) (fun _ ga La fa => ?_)
  have ha := hv.f fa (by decide)
  have sa : ∀ j, j < 12 → ga 49 j = g 25 j := fun j hj => by rw [fa.c (k := 49) (by decide) (by decide)]; exact hs j hj
  refine pc_ite (fun _ => pc_cb (pc_kp (w_fX1_lostFrom_8 _ _ _ _ _ FW.refl)) (fun x11 gb Lb fb => pc_stA (fun gc ec => pc_some (fun a b hc hn => ?_)))) (fun _ => pc_ck (fun _ _ => pc_ck (fun _ _ => pc_st (fun gb eb => hk _ ⟨ha.st eb rfl, fun j hj => ?_⟩))))
  · have hb := ha.f fb (by decide)
    have sb : ∀ j, j < 12 → gb 49 j = g 25 j := fun j hj => by rw [fb.c (k := 49) (by decide) (by decide)]; exact sa j hj
    rw [ec]
    by_cases h25 : a = 25
    · subst h25
      have hb12 : b < 12 := by
        rcases hc with ⟨-, -, h⟩ | ⟨h, -⟩ | ⟨h, -⟩ | ⟨h, -⟩
        · exact h
        · exact absurd h (by decide)
        · exact absurd h (by decide)
        · exact absurd h (by decide)
      rw [updA_at, cpy_at, if_pos hb12]; exact sb b hb12
    · rw [updA_ne h25]; exact hb a b hc h25
  · show gb 49 j = g 25 j
    rw [eb, upd2_nk (by decide)]; exact sa j hj
theorem rs_fits : Pc (fX10_findBeginners_9 fu g L) (fun _ g1 _ => Rs S0 g g1) := by
  unfold fX10_findBeginners_9 fX10_findBeginners_9_l17
  have nc4 : ∀ j, ¬ cY 9 j := fun j h => by rcases h with ⟨h, -⟩ | ⟨h, -⟩ | ⟨h, -⟩ | ⟨h, -⟩ <;> omega
  refine pc_st (fun g1 e1 => pc_st (fun g2 e2 => pc_st (fun g3 e3 => ?_)))
  refine pc_loop (fun v => Rs S0 g v.2.1) (fun k hk v hv => ?_) (((Rs.refl.so e1 (nc4 _)).so e2 (nc4 _)).so e3 (nc4 _))
  obtain ⟨v1, g', L'⟩ := v
  replace hv : Rs S0 g g' := hv
  show Pc (fX10_findBeginners_9_s17 fu k v1 g' L') _
  unfold fX10_findBeginners_9_s17
  refine pc_cb (pc_kp (w_fX10_lessonCount_9 _ _ _ _ FW.refl)) (fun _ ga La fa => ?_)
  have ha := hv.f fa (by decide)
  refine pc_ite (fun _ => pc_some ha) (fun _ => pc_cb (pc_kp (w_fX1_runFrom_8 _ _ _ _ _ FW.refl)) (fun _ gb Lb fb => pc_ck (fun b1 b2 => pc_lti (fun x13 ex => ?_))))
  have hb := ha.f fb (by decide)
  have ex' : x13 = g 25 v1.toNatClampNeg := by rw [ex]; exact hb 25 _ (Or.inl ⟨by decide, by decide, by rw [nc]; omega⟩) id
  unfold fX10_findBeginners_9_l45
  refine pc_loop (fun v => Rs (S1 25 v1.toNatClampNeg) g v.2.1) (fun k45 hk45 v hv => ?_) hb.m0
  obtain ⟨v3, g'', L''⟩ := v
  replace hv : Rs (S1 25 v1.toNatClampNeg) g g'' := hv
  show Pc (fX10_findBeginners_9_s45 fu k v1 x13 k45 v3 g'' L'') _
  unfold fX10_findBeginners_9_s45 fX10_findBeginners_9_p82
  refine pc_ite (fun _ => pc_ck (fun _ _ => pc_st (fun gc ec => hk _ (hv.b1 ec ex')))) (fun _ => pc_ck (fun _ _ => pc_st (fun gc ec => pc_cb (pc_kp (w_fX1_runFrom_8 _ _ _ _ _ FW.refl)) (fun _ gd Ld fd => pc_cb (pc_kp (w_fX10_isAsSeen_9 _ _ _ _ FW.refl)) (fun _ ge Le fe => ?_)))))
  have he := ((hv.st ec ⟨rfl, rfl⟩).f fd (by decide)).f fe (by decide)
  exact pc_ite (fun _ => hk45 _ he) (fun _ => pc_cb (pc_kp (w_fX10_addBeginner_9 _ _ _ _ _ _ FW.refl)) (fun _ gf Lf ff => hk45 _ (he.f ff (by decide))))
theorem rs_shift {p1 p2 : Int32} : Pc (fX10_leastByShift_9 fu p1 p2 g L) (fun _ g1 _ => Rs S0 g g1) := by
  unfold fX10_leastByShift_9 fX10_leastByShift_9_l44
  refine pc_ck (fun _ _ => pc_ltn (fun q eq => pc_lti (fun x2 ex2 => pc_lti (fun x3 ex3 => pc_cb (pc_kp (w_fX1_runFrom_8 _ _ _ _ _ FW.refl)) (fun _ g5 L5 f5 => pc_cb (pc_kp (w_fX4_clear_13 _ _ _ _ FW.refl)) (fun _ g9 L9 f9 => ?_))))))
  refine pc_loop (fun v => Rs (fun a b => a = q ∧ (b = 3 ∨ b = 4)) g v.2.1) (fun k hk v hv => ?_) ((Rs.refl.f f5 (by decide)).f f9 (by decide))
  obtain ⟨v6, g', L'⟩ := v
  replace hv : Rs (fun a b => a = q ∧ (b = 3 ∨ b = 4)) g g' := hv
  show Pc (fX10_leastByShift_9_s44 fu p1 p2 q x2 x3 k v6 g' L') _
  unfold fX10_leastByShift_9_s44 fX10_leastByShift_9_p105
  refine pc_ite (fun _ => pc_st (fun ga ea => pc_st (fun gb eb => pc_cb (pc_kp (w_fX4_told_13 _ _ _ _ _ FW.refl)) (fun _ gt Lt ft => pc_some ?_)))) (fun _ => pc_ite (fun _ => hk _ hv) (fun _ => pc_ite (fun _ => hk _ hv) (fun _ => pc_st (fun ga ea => pc_st (fun gb eb => pc_cb (pc_kp (w_fX1_lostFrom_8 _ _ _ _ _ FW.refl)) (fun _ gc Lc fc => pc_cb (pc_kp (w_fX4_offer_13 _ _ _ _ _ _ FW.refl)) (fun _ gd Ld fd => hk _ ?_)))))))
  · have h1 := ((hv.bk ea ex2).bk eb ex3).mo (S' := S0) (fun a b h => by
      obtain ⟨⟨⟨h1, h2⟩, h3⟩, h4⟩ := h
      rcases h2 with h2 | h2
      · exact h3 ⟨h1, h2⟩
      · exact h4 ⟨h1, h2⟩)
    exact h1.f ft (by decide)
  · exact (((hv.st ea ⟨rfl, Or.inl rfl⟩).st eb ⟨rfl, Or.inr rfl⟩).f fc (by decide)).f fd (by decide)
theorem rs_harm {p1 p2 : Int32} : Pc (fX10_harmDone_9 fu p1 p2 g L) (fun _ g1 _ => Rs S0 g g1) := by
  unfold fX10_harmDone_9
  refine pc_cb (pc_kp (w_fX1_runFrom_8 _ _ _ _ _ FW.refl)) (fun _ g2 L2 f2 => pc_cb (pc_kp (w_fX1_late_8 _ _ _ _ _ FW.refl)) (fun _ g6 L6 f6 => pc_ck (fun a1 a2 => pc_lti (fun x9 ex => pc_ck (fun _ _ => pc_st (fun g10 e10 => pc_cb (pc_kp (w_fX1_runFrom_8 _ _ _ _ _ FW.refl)) (fun _ g12 L12 f12 => pc_ck (fun _ _ => pc_st (fun g15 e15 => pc_cb (pc_kp (w_fX1_late_8 _ _ _ _ _ FW.refl)) (fun _ g17 L17 f17 => pc_some ?_))))))))))
  have h6 : Rs S0 g g6 := (Rs.refl.f f2 (by decide)).f f6 (by decide)
  have ex' : x9 = g 25 p1.toNatClampNeg := by rw [ex]; exact h6 25 _ (Or.inl ⟨by decide, by decide, by rw [nc]; omega⟩) id
  exact ((((h6.m0 (S := S1 25 p1.toNatClampNeg)).st e10 ⟨rfl, rfl⟩).f f12 (by decide)).b1 e15 ex').f f17 (by decide)
theorem rs_addGap {p1 p2 : Int32} : Pc (fX10_addGapFrom_9 fu p1 p2 g L) (fun _ g1 _ => (∀ j, j < 12 → g1 26 j = if (j : Int) < (g 1 2).toInt ∧ ¬ g (57 + j) 3 < p1 then g 26 j + p2 else g 26 j) ∧ (∀ k, k ≠ 26 → g1 k = g k)) := by
  unfold fX10_addGapFrom_9 fX10_addGapFrom_9_l2
  refine pc_loop (fun v => 0 ≤ v.1.toInt ∧ (∀ j : Nat, j < 12 → v.2.1 26 j = if (j : Int) < v.1.toInt ∧ ((j : Int) < (g 1 2).toInt ∧ ¬ g (57 + j) 3 < p1) then g 26 j + p2 else g 26 j) ∧ (∀ k, k ≠ 26 → v.2.1 k = g k)) (fun k hk v hv => ?_) ⟨(show 0 ≤ (0 : Int32).toInt from by decide), fun j _ => (if_neg (fun h => absurd (show (j : Int) < 0 from h.1) (by omega))).symm, fun _ _ => rfl⟩
  obtain ⟨v3, g', L'⟩ := v
  obtain ⟨h0, h1, h2⟩ := hv
  replace h0 : 0 ≤ v3.toInt := h0
  replace h1 : ∀ j : Nat, j < 12 → g' 26 j = if (j : Int) < v3.toInt ∧ ((j : Int) < (g 1 2).toInt ∧ ¬ g (57 + j) 3 < p1) then g 26 j + p2 else g 26 j := h1
  replace h2 : ∀ k, k ≠ 26 → g' k = g k := h2
  show Pc (fX10_addGapFrom_9_s2 fu p1 p2 k v3 g' L') _
  unfold fX10_addGapFrom_9_s2 fX10_addGapFrom_9_p42
  refine pc_cb (P := fun x ga _ => x = g' 1 2 ∧ ga = g') (fun x ga La e => by
    have e : some (g' 1 2, ((g', L') : zS)) = some (x, (ga, La)) := e
    cases e; exact ⟨rfl, rfl⟩) (fun x ga La hh => ?_)
  obtain ⟨rfl, rfl⟩ := hh
  have e12 : ga 1 2 = g 1 2 := by rw [h2 1 (by decide)]
  refine pc_ite (fun c => pc_some ⟨fun j hj => ?_, h2⟩) (fun c => pc_ck (fun c1 c2 => pc_ltn (fun q eq => ?_)))
  · have c := icc_le (m := (ga 1 2).toInt) (n := v3.toInt) rfl rfl c
    rw [e12] at c
    rw [h1 j hj]
    by_cases hn : (j : Int) < (g 1 2).toInt ∧ ¬ g (57 + j) 3 < p1
    · rw [if_pos ⟨by omega, hn⟩, if_pos hn]
    · rw [if_neg (fun h => hn h.2), if_neg hn]
  have c := icc_nle (m := (ga 1 2).toInt) (n := v3.toInt) rfl rfl c
  rw [e12] at c
  have ew : (v3 + 1).toInt = v3.toInt + 1 := ic_addc rfl (by decide) (by omega) (by omega)
  have eN : v3.toNatClampNeg = v3.toInt.toNat := by rw [nc]
  have eq' : q = 57 + v3.toInt.toNat := by rw [eq, eN]; omega
  have eq3 : ga q = g (57 + v3.toInt.toNat) := by rw [eq', h2 _ (by omega)]
  refine pc_ite (fun d => hk _ ⟨(show 0 ≤ (v3 + 1).toInt by omega), fun j hj => ?_, h2⟩) (fun d => pc_ck (fun _ _ => pc_ck (fun _ _ => pc_st (fun gb eb => hk _ ⟨(show 0 ≤ (v3 + 1).toInt by omega), fun j hj => ?_, fun k hk => ?_⟩))))
  · show ga 26 j = _
    rw [h1 j hj]
    rw [eq3] at d
    by_cases hjv : j = v3.toInt.toNat
    · rw [if_neg (fun h => by have := h.1; omega), if_neg (fun h => h.2.2 (by rw [hjv]; exact d))]
    · by_cases hn : (j : Int) < v3.toInt ∧ ((j : Int) < (g 1 2).toInt ∧ ¬ g (57 + j) 3 < p1)
      · rw [if_pos hn, if_pos ⟨by have := hn.1; show (j : Int) < (v3 + 1).toInt; omega, hn.2⟩]
      · rw [if_neg hn, if_neg (fun h => hn ⟨by have h1 : (j : Int) < (v3 + 1).toInt := h.1; omega, h.2⟩)]
  · show gb 26 j = _
    rw [eq3] at d
    rw [eb, eN]
    by_cases hjv : j = v3.toInt.toNat
    · rw [hjv, upd2_at, h1 _ (by omega), if_neg (fun h => by have := h.1; omega), if_pos ⟨by show ((v3.toInt.toNat : Nat) : Int) < (v3 + 1).toInt; omega, by omega, d⟩]
    · rw [upd2_nj hjv, h1 j hj]
      by_cases hn : (j : Int) < v3.toInt ∧ ((j : Int) < (g 1 2).toInt ∧ ¬ g (57 + j) 3 < p1)
      · rw [if_pos hn, if_pos ⟨by have := hn.1; show (j : Int) < (v3 + 1).toInt; omega, hn.2⟩]
      · rw [if_neg hn, if_neg (fun h => hn ⟨by have h1 : (j : Int) < (v3 + 1).toInt := h.1; omega, h.2⟩)]
  · show gb k = g k
    rw [eb, ← h2 k hk]; exact funext fun i => upd2_nk hk
theorem rs_pause {p1 p2 : Int32} : Pc (fX10_leastByPause_9 fu p1 p2 g L) (fun _ g1 _ => Rs S0 g g1) := by
  unfold fX10_leastByPause_9 fX10_leastByPause_9_l9
  refine pc_cb (pc_kp (w_fX4_clear_13 _ _ _ _ FW.refl)) (fun _ g6 L6 f6 => ?_)
  refine pc_loop (fun v => Rs S0 g v.2.1) (fun k hk v hv => ?_) (Rs.refl.f f6 (by decide))
  obtain ⟨v3, g', L'⟩ := v
  replace hv : Rs S0 g g' := hv
  show Pc (fX10_leastByPause_9_s9 fu p1 p2 k v3 g' L') _
  unfold fX10_leastByPause_9_s9
  refine pc_cb (pc_kp (w_fX10_lessonCount_9 _ _ _ _ FW.refl)) (fun _ ga La fa => ?_)
  have ha := hv.f fa (by decide)
  refine pc_ite (fun _ => pc_cb (pc_kp (w_fX4_told_13 _ _ _ _ _ FW.refl)) (fun _ gt Lt ft => pc_some (ha.f ft (by decide)))) (fun _ => pc_ck (fun _ _ => pc_ltn (fun q eq => pc_lti (fun x15 ex => pc_cb rs_addGap (fun _ gb Lb fb => pc_cb (pc_kp (w_fX1_lostFrom_8 _ _ _ _ _ FW.refl)) (fun _ gc Lc fc => pc_cb (pc_kp (w_fX4_offer_13 _ _ _ _ _ _ FW.refl)) (fun _ gd Ld fd => pc_cb rs_addGap (fun _ ge Le fe => hk _ (ha.tr ?_)))))))))
  have hd : Rs S0 gb gd := (Rs.refl.f fc (by decide)).f fd (by decide)
  have e12 : gd 1 2 = ga 1 2 := by rw [fd.c (k := 1) (by decide) (by decide), fc.c (k := 1) (by decide) (by decide), fb.2 1 (by decide)]
  intro a b hc hn
  show ge a b = ga a b
  by_cases h26 : a = 26
  · subst h26
    have hb12 : b < 12 := by
      rcases hc with ⟨-, -, h⟩ | ⟨h, -⟩ | ⟨h, -⟩ | ⟨h, -⟩
      · exact h
      · exact absurd h (by decide)
      · exact absurd h (by decide)
      · exact absurd h (by decide)
    have el : gd (57 + b) 3 = ga (57 + b) 3 := by rw [hd (57 + b) 3 (Or.inr (Or.inr (Or.inl ⟨by omega, by omega⟩))) id, fb.2 (57 + b) (by omega)]
    rw [fe.1 b hb12, e12, el, hd 26 b hc id, fb.1 b hb12]
    by_cases hh : (b : Int) < (ga 1 2).toInt ∧ ¬ ga (57 + b) 3 < x15
    · rw [if_pos hh, if_pos hh, Int32.add_assoc]
      show ga 26 b + (p1 + -p1) = _
      rw [Int32.add_right_neg, Int32.add_zero]
    · rw [if_neg hh, if_neg hh]
  · rw [fe.2 a h26, hd a b hc id, fb.2 a h26]
theorem rs_fewest {p1 p2 p3 : Int32} : Pc (fX2_fewest_10 fu p1 p2 p3 g L) (fun _ g1 _ => Rs S0 g g1) := by
  unfold fX2_fewest_10 fX2_fewest_10_l46
  have nc4 : ∀ j, ¬ cY 10 j := fun j h => by rcases h with ⟨h, -⟩ | ⟨h, -⟩ | ⟨h, -⟩ | ⟨h, -⟩ <;> omega
  refine pc_st (fun g1 e1 => pc_st (fun g2 e2 => pc_st (fun g3 e3 => pc_st (fun g4 e4 => pc_cb (pc_kp (w_fX2_findAsked_10 _ _ _ _ FW.refl)) (fun _ g6 L6 f6 => pc_stA (fun g9 e9 => ?_))))))
  have h6 : Rs S0 g g6 := ((((Rs.refl.so e1 (nc4 _)).so e2 (nc4 _)).so e3 (nc4 _)).so e4 (nc4 _)).f f6 (by decide)
  have h9 : Rs S0 g g9 := fun a b hc hn => by
    rw [e9, updA_ne (by rcases hc with ⟨x, y, -⟩ | ⟨x, -⟩ | ⟨x, y⟩ | ⟨x, -⟩ <;> omega)]; exact h6 a b hc hn
  have s9 : ∀ j, j < 12 → g9 50 j = g 26 j := fun j hj => by
    rw [e9, updA_at, cpy_at, if_pos hj]; exact h6 26 j (Or.inl ⟨by decide, by decide, hj⟩) id
  refine pc_loop (fun v => Rs (fun a _ => a = 26) g v.2.1 ∧ ∀ j, j < 12 → v.2.1 50 j = g 26 j) (fun k hk v hv => ?_) ⟨h9.m0, s9⟩
  obtain ⟨v4, g', L'⟩ := v
  obtain ⟨hv, hs⟩ := hv
  replace hv : Rs (fun a _ => a = 26) g g' := hv
  replace hs : ∀ j, j < 12 → g' 50 j = g 26 j := hs
  show Pc (fX2_fewest_10_s46 fu p1 k v4 g' L') _
  unfold fX2_fewest_10_s46 fX2_fewest_10_p82 fX2_fewest_10_p130
  refine pc_ite (fun _ => pc_cb (pc_kp (wl_fX2_tryFrom_10 _ _ _ _ _ _)) (fun _ gb Lb fb => pc_stA (fun gc ec => ?_))) (fun _ => pc_cb (pc_kp (w_fX2_isIn _ _ _ _ _ _ FW.refl)) (fun _ ga La fa => ?_))
  · have fin : Rs S0 g gc := fun a b hc hn => by
      rw [ec]
      by_cases h26 : a = 26
      · subst h26
        have hb12 : b < 12 := by
          rcases hc with ⟨-, -, h⟩ | ⟨h, -⟩ | ⟨h, -⟩ | ⟨h, -⟩
          · exact h
          · exact absurd h (by decide)
          · exact absurd h (by decide)
          · exact absurd h (by decide)
        rw [updA_at, cpy_at, if_pos hb12, fb.c (k := 50) (by decide) (by decide)]; exact hs b hb12
      · rw [updA_ne h26]
        have hv' := hv a b hc h26
        rw [← hv']
        rcases hc with ⟨x, y, -⟩ | ⟨rfl, rfl⟩ | ⟨x, y⟩ | ⟨rfl, rfl | rfl⟩
        · rcases (by omega : a = 25 ∨ a = 27 ∨ a = 28) with rfl | rfl | rfl
          · rw [fb.c (k := 25) (by decide) (by decide)]
          · rw [fb.c (k := 27) (by decide) (by decide)]
          · rw [fb.c (k := 28) (by decide) (by decide)]
        · exact fb 6 11 (by decide) (by decide)
        · rw [okw_c (fc := [57, 58, 59, 60, 61, 62, 63, 64, 65, 66, 67, 68]) (ff := []) (by decide) fb (by
            have m : ∀ k, k < 69 → 57 ≤ k → k ∈ [57, 58, 59, 60, 61, 62, 63, 64, 65, 66, 67, 68] := by decide
            exact m a (by omega) x)]
        · exact fb 8 8 (by decide) (by decide)
        · exact fb 8 9 (by decide) (by decide)
    exact pc_ite (fun _ => pc_some fin) (fun _ => pc_some fin)
  · have ha := hv.f fa (by decide)
    have sa : ∀ j, j < 12 → ga 50 j = g 26 j := fun j hj => by rw [fa.c (k := 50) (by decide) (by decide)]; exact hs j hj
    have go : ∀ (gb : gT) (i : Nat) (x : Int32), gb = upd2 ga 26 i x → (∀ j, j < 12 → gb 50 j = g 26 j) ∧ Rs (fun a _ => a = 26) g gb := fun gb i x eb => ⟨fun j hj => by rw [eb, upd2_nk (by decide)]; exact sa j hj, ha.st eb rfl⟩
    exact pc_ite (fun _ => pc_ck (fun _ _ => pc_ck (fun _ _ => pc_st (fun gb eb => hk _ ⟨(go gb _ _ eb).2, (go gb _ _ eb).1⟩)))) (fun _ => pc_ck (fun _ _ => pc_st (fun gb eb => hk _ ⟨(go gb _ _ eb).2, (go gb _ _ eb).1⟩)))
theorem rs_runWith {p1 p2 : Int32} (h8 : g 8 8 = -1) : Pc (fX0_runWith_11 fu p1 p2 g L) (fun _ g1 _ => Rs S0 g g1) := by
  unfold fX0_runWith_11 fX0_runWith_11_l10
  refine pc_lti (fun x1 _ => ?_)
  refine pc_loop (fun v => v.2.2.1 = g) (fun k hk v hv => ?_) rfl
  obtain ⟨v3, v4, g', L'⟩ := v
  replace hv : g' = g := hv
  subst hv
  show Pc (fX0_runWith_11_s10 fu p1 p2 k v3 v4 g' L') _
  unfold fX0_runWith_11_s10 fX0_runWith_11_p42
  refine pc_ite (fun _ => pc_st (fun g3 e3 => ?_)) (fun _ => pc_ite (fun _ => pc_ck (fun _ _ => pc_lti (fun x11 _ => hk _ rfl))) (fun _ => hk _ rfl))
  unfold fX0_runWith_11_l59
  refine pc_loop (fun v => Rs (S1 8 8) g' v.2.1) (fun k59 hk59 v hv => ?_) (Rs.refl.st e3 ⟨rfl, rfl⟩)
  obtain ⟨v5, g'', L''⟩ := v
  replace hv : Rs (S1 8 8) g' g'' := hv
  show Pc (fX0_runWith_11_s59 fu p2 k59 v5 g'' L'') _
  unfold fX0_runWith_11_s59
  exact pc_ite (fun _ => pc_st (fun g5 e5 => pc_some (hv.b1 e5 h8.symm))) (fun _ => pc_cb (pc_kp (w_fX1_runOne_8 _ _ _ _ _ FW.refl)) (fun _ g7 L7 f7 => hk59 _ (hv.f f7 (by decide))))
theorem rs_ofLate {p1 p2 : Int32} (h8 : g 8 8 = -1) : Pc (fX0_ofLate_11 fu p1 p2 g L) (fun _ g1 _ => Rs S0 g g1) := by
  unfold fX0_ofLate_11 fX0_ofLate_11_l12
  refine pc_cb (pc_kp (w_fX0_findUnsure_11 _ _ _ _ _ FW.refl)) (fun _ g2 L2 f2 => pc_stl (fun L5 => ?_))
  refine pc_loop (fun v => Rs S0 g v.2.1) (fun k hk v hv => ?_) (Rs.refl.f f2 (by decide))
  obtain ⟨v3, g', L'⟩ := v
  replace hv : Rs S0 g g' := hv
  have h8' : g' 8 8 = -1 := (hv 8 8 (Or.inr (Or.inr (Or.inr ⟨rfl, Or.inl rfl⟩))) id).trans h8
  show Pc (fX0_ofLate_11_s12 fu p1 p2 k v3 g' L') _
  unfold fX0_ofLate_11_s12 fX0_ofLate_11_p54
  refine pc_ite (fun _ => pc_cb (pc_kp (w_fX0_reduce_11 _ _ _ _ FW.refl)) (fun _ ga La fa => pc_some (hv.f fa (by decide)))) (fun _ => pc_cb (rs_runWith h8') (fun _ ga La fa => pc_cb (pc_kp (w_fX1_late_8 _ _ _ _ _ FW.refl)) (fun _ gb Lb fb => ?_)))
  have hb := (hv.tr fa).f fb (by decide)
  exact pc_ite (fun _ => hk _ hb) (fun _ => pc_cb (pc_kp (w_fX0_weight_11 _ _ _ _ _ FW.refl)) (fun _ gc Lc fc => pc_stl (fun Ld => hk _ (hb.f fc (by decide)))))
theorem rs_meanLate {p1 : Int32} (h8 : g 8 8 = -1) : Pc (fX0_meanLate_11 fu p1 g L) (fun _ g1 _ => Rs S0 g g1) := by
  unfold fX0_meanLate_11 fX0_meanLate_11_l12
  refine pc_cb (pc_kp (w_fX0_findUnsure_11 _ _ _ _ _ FW.refl)) (fun _ g2 L2 f2 => pc_stl (fun L5 => ?_))
  refine pc_loop (fun v => Rs S0 g v.2.1) (fun k hk v hv => ?_) (Rs.refl.f f2 (by decide))
  obtain ⟨v3, g', L'⟩ := v
  replace hv : Rs S0 g g' := hv
  have h8' : g' 8 8 = -1 := (hv 8 8 (Or.inr (Or.inr (Or.inr ⟨rfl, Or.inl rfl⟩))) id).trans h8
  show Pc (fX0_meanLate_11_s12 fu p1 k v3 g' L') _
  unfold fX0_meanLate_11_s12
  refine pc_ite (fun _ => pc_cb (pc_kp (w_fX0_reduce_11 _ _ _ _ FW.refl)) (fun _ ga La fa => pc_some (hv.f fa (by decide)))) (fun _ => pc_cb (rs_runWith h8') (fun _ ga La fa => pc_cb (pc_kp (w_fX0_weight_11 _ _ _ _ _ FW.refl)) (fun _ gc Lc fc => pc_cb (pc_kp (w_fX1_late_8 _ _ _ _ _ FW.refl)) (fun _ gb Lb fb => pc_stl (fun Ld => hk _ (((hv.tr fa).f fc (by decide)).f fb (by decide)))))))
theorem rs_ofTerm {p1 p2 p3 p4 : Int32} (h8 : g 8 8 = -1) : Pc (fX0_ofTerm_11 fu p1 p2 p3 p4 g L) (fun _ g1 _ => Rs S0 g g1) := by
  unfold fX0_ofTerm_11 fX0_ofTerm_11_l17
  have nc4 : ∀ j, ¬ cY 11 j := fun j h => by rcases h with ⟨h, -⟩ | ⟨h, -⟩ | ⟨h, -⟩ | ⟨h, -⟩ <;> omega
  refine pc_st (fun g1 e1 => ?_)
  refine pc_loop (fun v => Rs (S1 8 8) g v.2.2.2.2.1) (fun k hk v hv => ?_) ((Rs.refl.so e1 (nc4 _)).m0)
  obtain ⟨v5, v6, v7, v8, g', L'⟩ := v
  replace hv : Rs (S1 8 8) g g' := hv
  show Pc (fX0_ofTerm_11_s17 fu p2 p3 p4 k v5 v6 v7 v8 g' L') _
  unfold fX0_ofTerm_11_s17 fX0_ofTerm_11_p116 fX0_ofTerm_11_p78
  refine pc_ite (fun _ => pc_st (fun g3 e3 => ?_)) (fun _ => pc_cb (pc_kp (w_fX0_drawRunning_11 _ _ _ _ FW.refl)) (fun _ ga La fa => pc_st (fun gb eb => pc_cb (pc_kp (w_fX1_lostFrom_8 _ _ _ _ _ FW.refl)) (fun _ gc Lc fc => pc_lti (fun x15 _ => pc_lti (fun x16 _ => pc_cb (pc_kp (w_fX1_late_8 _ _ _ _ _ FW.refl)) (fun _ gd Ld fd => ?_)))))))
  · have h3 := hv.b1 e3 h8.symm
    exact pc_ite (fun _ => pc_some h3) (fun _ => pc_ite (fun _ => pc_some h3) (fun _ => pc_some h3))
  · have hd := ((((hv.f fa (by decide)).st eb ⟨rfl, rfl⟩).f fc (by decide)).f fd (by decide))
    exact pc_ite (fun _ => pc_lti (fun _ _ => hk _ hd)) (fun _ => pc_lti (fun _ _ => hk _ hd))
end RX
end
