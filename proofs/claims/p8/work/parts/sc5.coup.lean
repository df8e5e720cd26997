/-! ===== the coupling: become, see, forget ===== -/
def mst (x : Int) : Int := if x = 0 then 60 else if x = 1 then 30 else if x = 2 then 9 else 99
theorem most_eq {fu : Nat} {p : Int32} {g : gT} {L : lT} : ∃ y : Int32, fX11_mostOf fu p g L = some (y, (g, L)) ∧ y.toInt = mst p.toInt := by
  unfold fX11_mostOf mst
  by_cases c0 : p.toInt = 0
  · exact ⟨60, by rw [if_pos c0], by rw [if_pos c0]; rfl⟩
  by_cases c1 : p.toInt = 1
  · exact ⟨30, by rw [if_neg c0, if_pos c1], by rw [if_neg c0, if_pos c1]; rfl⟩
  by_cases c2 : p.toInt = 2
  · exact ⟨9, by rw [if_neg c0, if_neg c1, if_pos c2], by rw [if_neg c0, if_neg c1, if_pos c2]; rfl⟩
  · exact ⟨99, by rw [if_neg c0, if_neg c1, if_neg c2], by rw [if_neg c0, if_neg c1, if_neg c2]; rfl⟩
/-- what may become -/
def beC (n p1 p2 p3 : Int32) : Prop := isL n p1 ∧ (0 ≤ p2.toInt ∧ p2.toInt ≤ 3) ∧ 0 ≤ p3.toInt ∧ p3.toInt ≤ mst p2.toInt
theorem become_x {fu : Nat} {p1 p2 p3 : Int32} {g : gT} {L : lT} (hr : 0 ≤ (g 6 9).toInt ∧ (g 6 9).toInt ≤ 40) : Pc (fX11_become_0 fu p1 p2 p3 g L) (fun _ g1 _ => (beC (g 1 2) p1 p2 p3 → (g1 6 9).toInt = bmp (g 6 9).toInt) ∧ (¬ beC (g 1 2) p1 p2 p3 → g1 6 9 = g 6 9)) := by
  unfold fX11_become_0
  by_cases c1 : isL (g 1 2) p1
  rotate_left
  · refine pc_cbx (P := fun r g1 _ => (∃ E, r = .error E) ∧ g1 = g) (fun x g' L' e => by rw [xneed0 c1] at e; cases e; exact ⟨⟨_, rfl⟩, rfl⟩) (fun E g1 L1 hh => ⟨fun h => absurd h.1 c1, fun _ => by rw [hh.2]⟩) (fun x g1 L1 hh => by obtain ⟨⟨E, e⟩, -⟩ := hh; exact nomatch e)
  refine pc_cbx (P := fun r g1 L1 => r = .ok () ∧ g1 = g ∧ L1 = L) (fun x g' L' e => by rw [xneed1 c1] at e; cases e; exact ⟨rfl, rfl, rfl⟩) (fun E g1 L1 hh => nomatch hh.1) (fun x ga La hh => ?_)
  obtain ⟨-, rfl, rfl⟩ := hh
  have e4 : (4 : Int32).toInt = 4 := rfl
  by_cases c2 : 0 ≤ p2.toInt ∧ p2.toInt < (4 : Int32).toInt
  rotate_left
  · refine pc_cbx (P := fun r g1 _ => (∃ E, r = .error E) ∧ g1 = ga) (fun x g' L' e => by rw [xwhat0 c2] at e; cases e; exact ⟨⟨_, rfl⟩, rfl⟩) (fun E g1 L1 hh => ⟨fun h => absurd h.2.1 (fun h => c2 (by omega)), fun _ => by rw [hh.2]⟩) (fun x g1 L1 hh => by obtain ⟨⟨E, e⟩, -⟩ := hh; exact nomatch e)
  refine pc_cbx (P := fun r g1 L1 => r = .ok () ∧ g1 = ga ∧ L1 = La) (fun x g' L' e => by rw [xwhat1 c2.1 c2.2] at e; cases e; exact ⟨rfl, rfl, rfl⟩) (fun E g1 L1 hh => nomatch hh.1) (fun x gb Lb hh => ?_)
  obtain ⟨-, rfl, rfl⟩ := hh
  have P22 : ¬ beC (gb 1 2) p1 p2 p3 → Pc (fX11_become_0_p22 fu gb Lb) (fun _ g1 _ => (beC (gb 1 2) p1 p2 p3 → (g1 6 9).toInt = bmp (gb 6 9).toInt) ∧ (¬ beC (gb 1 2) p1 p2 p3 → g1 6 9 = gb 6 9)) := by
    intro hn
    unfold fX11_become_0_p22
    exact pc_ck (fun _ _ => pc_ck (fun _ _ => pc_st (fun gc ec => pc_some ⟨fun h => absurd h hn, fun _ => by rw [ec]; rfl⟩)))
  refine pc_ite (fun c => P22 (fun h => ?_)) (fun c3 => ?_)
  · have c := icc_lt (m := p3.toInt) (n := 0) rfl (by decide) c
    have := h.2.2.1; omega
  have c3 := icc_nlt (m := p3.toInt) (n := 0) rfl (by decide) c3
  obtain ⟨y, ey, hy⟩ := most_eq (fu := fu) (p := p2) (g := gb) (L := Lb)
  refine pc_cb (P := fun x g1 L1 => x = y ∧ g1 = gb ∧ L1 = Lb) (fun x g' L' e => by rw [ey] at e; cases e; exact ⟨rfl, rfl, rfl⟩) (fun x gc Lc hh => ?_)
  obtain ⟨rfl, rfl, rfl⟩ := hh
  refine pc_ite (fun c4 => ?_) (fun c4 => P22 (fun h => ?_))
  rotate_left
  · have c4 := icc_nle (m := p3.toInt) (n := x.toInt) rfl rfl c4
    have := h.2.2.2; omega
  have c4 := icc_le (m := p3.toInt) (n := x.toInt) rfl rfl c4
  refine pc_cb (pc_kp (w_fX3_value_6 _ _ _ _ _ _ FW.refl)) (fun x16 gd Ld hd => ?_)
  have d9 : gd 6 9 = gc 6 9 := hd 6 9 (by decide) (by decide)
  refine pc_cb (keepAct_n (by rw [d9]; exact hr.1) (by rw [d9]; exact hr.2)) (fun _ ge Le he => ?_)
  refine pc_cb (pc_kp (w_fX3_put_6 _ _ _ _ _ _ _ FW.refl)) (fun _ gf Lf hf => pc_some ⟨fun _ => ?_, fun h => absurd ⟨c1, ⟨c2.1, by omega⟩, c3, by omega⟩ h⟩)
  rw [hf 6 9 (by decide) (by decide), he, d9]
theorem become_m {fu : Nat} {p1 p2 p3 : Int32} {g : gT} {L : lT} (hr : 0 ≤ (g 0 62).toInt ∧ (g 0 62).toInt ≤ 40) : Pc (fX12_become fu p1 p2 p3 g L) (fun _ g1 _ => (beC (g 0 1) p1 p2 p3 → (g1 0 62).toInt = bmp (g 0 62).toInt) ∧ (¬ beC (g 0 1) p1 p2 p3 → g1 0 62 = g 0 62)) := by
  unfold fX12_become
  refine pc_st (fun ga ea => ?_)
  have a0 : ga 0 0 = 0 := by rw [ea]; exact upd2_at
  have a1 : ga 0 1 = g 0 1 := by rw [ea]; rfl
  have a62 : ga 0 62 = g 0 62 := by rw [ea]; rfl
  unfold fX12_become_p22
  by_cases c1 : isL (g 0 1) p1
  rotate_left
  · refine pc_cb (P := fun x g1 _ => x = 0 ∧ g1 0 62 = g 0 62) (fun x g' L' e => by rw [lesson0 a0 (by rw [a1]; exact c1)] at e; cases e; exact ⟨rfl, a62⟩) (fun x g1 L1 hh => ?_)
    rw [hh.1, if_pos rfl]
    exact pc_some ⟨fun h => absurd h.1 c1, fun _ => hh.2⟩
  refine pc_cb (P := fun x g1 L1 => x = 1 ∧ g1 = ga ∧ L1 = L) (fun x g' L' e => by rw [lesson1 a0 (by rw [a1]; exact c1)] at e; cases e; exact ⟨rfl, rfl, rfl⟩) (fun x gb Lb hh => ?_)
  obtain ⟨rfl, rfl, rfl⟩ := hh
  rw [if_neg (by decide)]
  have e3 : (3 : Int32).toInt = 3 := rfl
  by_cases c2 : 0 ≤ p2.toInt ∧ p2.toInt ≤ (3 : Int32).toInt
  rotate_left
  · refine pc_cb (P := fun x g1 _ => x = 0 ∧ g1 0 62 = g 0 62) (fun x g' L' e => by rw [what0 a0 c2] at e; cases e; exact ⟨rfl, a62⟩) (fun x g1 L1 hh => ?_)
    rw [hh.1, if_pos rfl]
    exact pc_some ⟨fun h => absurd h.2.1 (fun h => c2 (by omega)), fun _ => hh.2⟩
  refine pc_cb (P := fun x g1 L1 => x = 1 ∧ g1 = gb ∧ L1 = Lb) (fun x g' L' e => by rw [what1 a0 c2.1 c2.2] at e; cases e; exact ⟨rfl, rfl, rfl⟩) (fun x gc Lc hh => ?_)
  obtain ⟨rfl, rfl, rfl⟩ := hh
  rw [if_neg (by decide)]
  have P57 : ∀ hi : Int32, hi.toInt = mst p2.toInt → Pc (fX12_become_p57 fu p1 p2 p3 hi 0 p3 gc Lc) (fun _ g1 _ => (beC (g 0 1) p1 p2 p3 → (g1 0 62).toInt = bmp (g 0 62).toInt) ∧ (¬ beC (g 0 1) p1 p2 p3 → g1 0 62 = g 0 62)) := by
    intro hi hh
    unfold fX12_become_p57
    by_cases c3 : (0 : Int32).toInt ≤ p3.toInt ∧ p3.toInt ≤ hi.toInt
    · refine pc_cb (P := fun x g1 L1 => x = 1 ∧ g1 = gc ∧ L1 = Lc) (fun x g' L' e => by rw [within1 c3.1 c3.2] at e; cases e; exact ⟨rfl, rfl, rfl⟩) (fun x gd Ld hd => ?_)
      obtain ⟨rfl, rfl, rfl⟩ := hd
      rw [if_neg (by decide)]
      refine pc_lti (fun x17 _ => pc_ck (fun _ _ => pc_lti (fun x18 _ => ?_)))
      refine pc_cb (keeps_n (by rw [a62]; exact hr.1) (by rw [a62]; exact hr.2)) (fun _ ge Le he => pc_ck (fun _ _ => pc_st (fun gf ef => pc_some ⟨fun _ => ?_, fun h => absurd ⟨c1, ⟨c2.1, by omega⟩, c3.1, by omega⟩ h⟩)))
      rw [ef]
      show (ge 0 62).toInt = _
      rw [he, a62]
    · refine pc_cb (P := fun x g1 L1 => x = 0 ∧ g1 = gc ∧ L1 = Lc) (fun x g' L' e => by rw [within0 c3] at e; cases e; exact ⟨rfl, rfl, rfl⟩) (fun x gd Ld hd => ?_)
      obtain ⟨rfl, rfl, rfl⟩ := hd
      rw [if_pos rfl]
      refine pc_cb (P := fun x g' L' => g' 0 62 = g 0 62) ?_ (fun x ge Le he => pc_some ⟨fun h => absurd h.2.2 (fun h => c3 ⟨h.1, by omega⟩), fun _ => he⟩)
      unfold fX12_refuses
      exact pc_ck (fun _ _ => pc_ck (fun _ _ => pc_st (fun gf ef => pc_some (by rw [ef]; exact a62))))
  refine pc_ite (fun c => P57 60 ?_) (fun d0 => pc_ite (fun c => P57 30 ?_) (fun d1 => pc_ite (fun c => P57 9 ?_) (fun d2 => P57 99 ?_)))
  · rw [c]; rfl
  · rw [c]; rfl
  · rw [c]; rfl
  · have d0 := icc_neq (m := p2.toInt) (n := 0) rfl (by decide) d0
    have d1 := icc_neq (m := p2.toInt) (n := 1) rfl (by decide) d1
    have d2 := icc_neq (m := p2.toInt) (n := 2) rfl (by decide) d2
    unfold mst
    rw [if_neg d0, if_neg d1, if_neg d2]; rfl
theorem cp_become {fu : Nat} {p1 p2 p3 : Int32} {g gm g1 g2 : gT} {L Lm L1 L2 : lT} {rx : Except String Int32} {rm : Int32} (h : CP g gm) (e1 : fX11_become_0 fu p1 p2 p3 g L = some (rx, (g1, L1))) (e2 : fX12_become fu p1 p2 p3 gm Lm = some (rm, (g2, L2))) (hI1 : zI XT g1) (hI2 : zI MT g2) (hJ2 : mJ g2) : CP g1 g2 := by
  have f1 : FW _ _ g g1 := w_fX11_become_0 _ _ _ _ _ _ _ FW.refl _ _ e1
  have f2 : FW _ _ gm g2 := w_fX12_become _ _ _ _ _ _ _ FW.refl _ _ e2
  obtain ⟨k1, k2, k3, k4, -⟩ := h.2.2.2.2.2.2.1
  have r9 := h.2.1 0 62 0 40 rfl
  have z := become_x (by rw [k3]; exact r9) _ _ _ e1
  have y := become_m r9 _ _ _ e2
  rw [k1, k3] at z
  have c10 : g1 6 10 = g2 0 73 := by rw [f1 6 10 (by decide) (by decide), f2 0 73 (by decide) (by decide)]; exact k4
  by_cases c : beC (gm 0 1) p1 p2 p3
  · exact cp_fr0 h hI1 hI2 hJ2 f1 f2 (by decide) (by decide) (ic_eq.mpr ((z.1 c).trans (y.1 c).symm)) c10
  · exact cp_fr0 h hI1 hI2 hJ2 f1 f2 (by decide) (by decide) ((z.2 c).trans (y.2 c).symm) c10
/-- seeing -/
def seC (n k p1 p2 : Int32) : Prop := isL n p1 ∧ (0 ≤ p2.toInt ∧ p2.toInt ≤ 999) ∧ k.toInt < 8
def Sx (n k p1 p2 : Int32) (r : Except String Int32) (k' : Int32) : Prop := (¬ isL n p1 → r = .error "java/util/NoSuchElementException" ∧ k' = k) ∧ (seC n k p1 p2 → ∃ y : Int32, r = .ok y ∧ y.toInt = k.toInt + 1 ∧ k'.toInt = k.toInt + 1) ∧ (isL n p1 → ¬ seC n k p1 p2 → r = .ok (-1) ∧ k' = k)
theorem see_x {fu : Nat} {p1 p2 : Int32} {g : gT} {L : lT} (hr : 0 ≤ (g 6 10).toInt ∧ (g 6 10).toInt ≤ 8) : Pc (fX11_see_0 fu p1 p2 g L) (fun r g1 _ => Sx (g 1 2) (g 6 10) p1 p2 r (g1 6 10)) := by
  unfold fX11_see_0
  by_cases c1 : isL (g 1 2) p1
  rotate_left
  · refine pc_cbx (P := fun r g1 _ => r = .error "java/util/NoSuchElementException" ∧ g1 = g) (fun x g' L' e => by rw [xneed0 c1] at e; cases e; exact ⟨rfl, rfl⟩) (fun E g1 L1 hh => ?_) (fun x g1 L1 hh => nomatch hh.1)
    obtain ⟨e, rfl⟩ := hh
    cases e
    exact ⟨fun _ => ⟨rfl, rfl⟩, fun h => absurd h.1 c1, fun h => absurd h c1⟩
  refine pc_cbx (P := fun r g1 L1 => r = .ok () ∧ g1 = g ∧ L1 = L) (fun x g' L' e => by rw [xneed1 c1] at e; cases e; exact ⟨rfl, rfl, rfl⟩) (fun E g1 L1 hh => nomatch hh.1) (fun x ga La hh => ?_)
  obtain ⟨-, rfl, rfl⟩ := hh
  have P28 : ¬ seC (ga 1 2) (ga 6 10) p1 p2 → Pc (fX11_see_0_p28 fu ga La) (fun r g1 _ => Sx (ga 1 2) (ga 6 10) p1 p2 r (g1 6 10)) := by
    intro hn
    unfold fX11_see_0_p28
    exact pc_ck (fun _ _ => pc_ck (fun _ _ => pc_st (fun gc ec => pc_some ⟨fun h => absurd c1 h, fun h => absurd h hn, fun _ _ => ⟨rfl, by rw [ec]; rfl⟩⟩)))
  refine pc_ite (fun c => P28 (fun h => ?_)) (fun c2 => pc_ite (fun c => P28 (fun h => ?_)) (fun c3 => pc_ite (fun c4 => ?_) (fun c4 => P28 (fun h => ?_))))
  · have c := icc_lt (m := p2.toInt) (n := 0) rfl (by decide) c
    have := h.2.1.1; omega
  · have c := icc_lt (m := 999) (n := p2.toInt) (by decide) rfl c
    have := h.2.1.2; omega
  rotate_left
  · have c4 := icc_nlt (m := (ga 6 10).toInt) (n := 8) rfl (by decide) c4
    have := h.2.2; omega
  have c2 := icc_nlt (m := p2.toInt) (n := 0) rfl (by decide) c2
  have c3 := icc_nlt (m := 999) (n := p2.toInt) (by decide) rfl c3
  have c4 := icc_lt (m := (ga 6 10).toInt) (n := 8) rfl (by decide) c4
  refine pc_cb (P := fun _ g1 _ => (g1 6 10).toInt = (ga 6 10).toInt + 1) ?_ (fun _ gb Lb hb => pc_some ⟨fun h => absurd c1 h, fun _ => ⟨gb 6 10, rfl, hb, hb⟩, fun _ h => absurd ⟨c1, ⟨by omega, by omega⟩, by omega⟩ h⟩)
  unfold fX3_keepSeen_6 fX3_keepSeen_6_p39
  refine pc_ite (fun c => ?_) (fun _ => ?_)
  · have c := icc_le (m := 8) (n := (ga 6 10).toInt) (by decide) rfl c; omega
  refine pc_ck (fun _ _ => pc_st (fun gb eb => pc_ck (fun _ _ => pc_st (fun gc ec => pc_st (fun gd ed => pc_some ?_)))))
  have e : gc 6 10 = ga 6 10 := by rw [ec, eb]; rfl
  rw [ed, upd2_at, e]
  exact ic_addc rfl (by decide) (by omega) (by omega)
/-- the reference's answer, and what it would throw -/
def Sm2 (n k p1 p2 : Int32) (r t : Int32) (k' : Int32) : Prop := (¬ isL n p1 → t = 1 ∧ k' = k) ∧ (seC n k p1 p2 → t = 0 ∧ r.toInt = k.toInt + 1 ∧ k'.toInt = k.toInt + 1) ∧ (isL n p1 → ¬ seC n k p1 p2 → t = 0 ∧ r = -1 ∧ k' = k)
theorem see_m {fu : Nat} {p1 p2 : Int32} {g : gT} {L : lT} (hr : 0 ≤ (g 0 73).toInt ∧ (g 0 73).toInt ≤ 8) : Pc (fX12_see fu p1 p2 g L) (fun r g1 _ => Sm2 (g 0 1) (g 0 73) p1 p2 r (g1 0 0) (g1 0 73)) := by
  unfold fX12_see
  refine pc_st (fun ga ea => ?_)
  have a0 : ga 0 0 = 0 := by rw [ea]; exact upd2_at
  have a1 : ga 0 1 = g 0 1 := by rw [ea]; rfl
  have a73 : ga 0 73 = g 0 73 := by rw [ea]; rfl
  by_cases c1 : isL (g 0 1) p1
  rotate_left
  · refine pc_cb (P := fun x g1 _ => x = 0 ∧ g1 0 73 = g 0 73 ∧ g1 0 0 = 1) (fun x g' L' e => by rw [lesson0 a0 (by rw [a1]; exact c1)] at e; cases e; exact ⟨rfl, a73, upd2_at⟩) (fun x g1 L1 hh => ?_)
    rw [hh.1, if_pos rfl]
    exact pc_some ⟨fun _ => ⟨hh.2.2, hh.2.1⟩, fun h => absurd h.1 c1, fun h => absurd h c1⟩
  refine pc_cb (P := fun x g1 L1 => x = 1 ∧ g1 = ga ∧ L1 = L) (fun x g' L' e => by rw [lesson1 a0 (by rw [a1]; exact c1)] at e; cases e; exact ⟨rfl, rfl, rfl⟩) (fun x gb Lb hh => ?_)
  obtain ⟨rfl, rfl, rfl⟩ := hh
  rw [if_neg (by decide), a73]
  have P35 : ¬ seC (g 0 1) (g 0 73) p1 p2 → Pc (fX12_see_p35 fu gb Lb) (fun r g1 _ => Sm2 (g 0 1) (g 0 73) p1 p2 r (g1 0 0) (g1 0 73)) := by
    intro hn
    unfold fX12_see_p35
    refine pc_cb (P := fun x g' L' => x = -1 ∧ g' 0 73 = g 0 73 ∧ g' 0 0 = 0) ?_ (fun x ge Le he => pc_some ⟨fun h => absurd c1 h, fun h => absurd h hn, fun _ _ => ⟨he.2.2, he.1, he.2.1⟩⟩)
    unfold fX12_refuses
    exact pc_ck (fun _ _ => pc_ck (fun _ _ => pc_st (fun gf ef => pc_some ⟨rfl, by rw [ef]; exact a73, by rw [ef]; exact a0⟩)))
  refine pc_ite (fun c => P35 (fun h => ?_)) (fun c8 => ?_)
  · have c := icc_eq (m := (g 0 73).toInt) (n := 8) rfl (by decide) c
    have := h.2.2; omega
  have c8 := icc_neq (m := (g 0 73).toInt) (n := 8) rfl (by decide) c8
  have e999 : (999 : Int32).toInt = 999 := rfl
  have e0 : (0 : Int32).toInt = 0 := rfl
  by_cases c3 : (0 : Int32).toInt ≤ p2.toInt ∧ p2.toInt ≤ (999 : Int32).toInt
  rotate_left
  · refine pc_cb (P := fun x g1 L1 => x = 0 ∧ g1 = gb ∧ L1 = Lb) (fun x g' L' e => by rw [within0 c3] at e; cases e; exact ⟨rfl, rfl, rfl⟩) (fun x gd Ld hd => ?_)
    obtain ⟨rfl, rfl, rfl⟩ := hd
    rw [if_pos rfl]
    exact P35 (fun h => c3 (by have := h.2.1; omega))
  refine pc_cb (P := fun x g1 L1 => x = 1 ∧ g1 = gb ∧ L1 = Lb) (fun x g' L' e => by rw [within1 c3.1 c3.2] at e; cases e; exact ⟨rfl, rfl, rfl⟩) (fun x gd Ld hd => ?_)
  obtain ⟨rfl, rfl, rfl⟩ := hd
  rw [if_neg (by decide)]
  refine pc_ck (fun _ _ => pc_st (fun ge ee => pc_ck (fun _ _ => pc_st (fun gf ef => pc_st (fun gh eh => pc_some ?_)))))
  have e73 : gf 0 73 = g 0 73 := by rw [ef, ee]; exact a73
  have h73 : (gh 0 73).toInt = (g 0 73).toInt + 1 := by rw [eh, upd2_at, e73]; exact ic_addc rfl (by decide) (by omega) (by omega)
  have h00 : gh 0 0 = 0 := by rw [eh, ef, ee]; exact a0
  exact ⟨fun h => absurd c1 h, fun _ => ⟨h00, h73, h73⟩, fun _ h => absurd ⟨c1, ⟨by omega, by omega⟩, by omega⟩ h⟩
theorem cp_see {fu : Nat} {p1 p2 : Int32} {g gm g1 g2 : gT} {L Lm L1 L2 : lT} {rx : Except String Int32} {rm : Int32} (h : CP g gm) (e1 : fX11_see_0 fu p1 p2 g L = some (rx, (g1, L1))) (e2 : fX12_see fu p1 p2 gm Lm = some (rm, (g2, L2))) (hI1 : zI XT g1) (hI2 : zI MT g2) (hJ2 : mJ g2) : CP g1 g2 ∧ ((∃ E, rx = .error E ∧ E = "java/util/NoSuchElementException" ∧ g2 0 0 = 1) ∨ (rx = .ok rm ∧ g2 0 0 = 0)) := by
  have f1 : FW _ _ g g1 := w_fX11_see_0 _ _ _ _ _ _ FW.refl _ _ e1
  have f2 : FW _ _ gm g2 := w_fX12_see _ _ _ _ _ _ FW.refl _ _ e2
  obtain ⟨k1, k2, k3, k4, -⟩ := h.2.2.2.2.2.2.1
  have r10 := h.2.1 0 73 0 8 rfl
  have z := see_x (by rw [k4]; exact r10) _ _ _ e1
  have y := see_m r10 _ _ _ e2
  rw [k1, k4] at z
  have c9 : g1 6 9 = g2 0 62 := by rw [f1 6 9 (by decide) (by decide), f2 0 62 (by decide) (by decide)]; exact k3
  obtain ⟨z1, z2, z3⟩ := z
  obtain ⟨y1, y2, y3⟩ := y
  by_cases c1 : isL (gm 0 1) p1
  rotate_left
  · have z := z1 c1
    have y := y1 c1
    exact ⟨cp_fr0 h hI1 hI2 hJ2 f1 f2 (by decide) (by decide) c9 (z.2.trans y.2.symm), Or.inl ⟨_, z.1, rfl, y.1⟩⟩
  by_cases c : seC (gm 0 1) (gm 0 73) p1 p2
  · obtain ⟨w, q1, q2, q3⟩ := z2 c
    have y := y2 c
    refine ⟨cp_fr0 h hI1 hI2 hJ2 f1 f2 (by decide) (by decide) c9 (ic_eq.mpr (q3.trans y.2.2.symm)), Or.inr ⟨?_, y.1⟩⟩
    rw [q1, show w = rm from ic_eq.mpr (q2.trans y.2.1.symm)]
  · have z := z3 c1 c
    have y := y3 c1 c
    exact ⟨cp_fr0 h hI1 hI2 hJ2 f1 f2 (by decide) (by decide) c9 (z.2.trans y.2.2.symm), Or.inr ⟨by rw [z.1, y.2.1], y.1⟩⟩
theorem cp_forget {fu : Nat} {g gm g1 g2 : gT} {L Lm L1 L2 : lT} {rx rm : Unit} (h : CP g gm) (e1 : fX11_forget_0 fu g L = some (rx, (g1, L1))) (e2 : fX12_forget fu gm Lm = some (rm, (g2, L2))) (hI1 : zI XT g1) (hI2 : zI MT g2) (hJ2 : mJ g2) : CP g1 g2 := by
  have f1 : FW _ _ g g1 := w_fX11_forget_0 _ _ _ _ FW.refl _ _ e1
  have f2 : FW _ _ gm g2 := w_fX12_forget _ _ _ _ FW.refl _ _ e2
  obtain ⟨k1, k2, k3, k4, -⟩ := h.2.2.2.2.2.2.1
  have c9 : g1 6 9 = g2 0 62 := by rw [f1 6 9 (by decide) (by decide), f2 0 62 (by decide) (by decide)]; exact k3
  refine cp_fr0 h hI1 hI2 hJ2 f1 f2 (by decide) (by decide) c9 ?_
  unfold fX11_forget_0 at e1
  unfold fX12_forget at e2
  have e1 : some _ = some (rx, (g1, L1)) := e1
  have e2 : some _ = some (rm, (g2, L2)) := e2
  cases e1; cases e2
  rfl
