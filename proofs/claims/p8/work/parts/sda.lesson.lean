/-! ===== lesson answers alike ===== -/
theorem waits_m {fu : Nat} {p1 : Int32} {g : gT} {L : lT} (h1 : 0 ≤ p1.toInt) (h2 : p1.toInt < 12) (hr : 0 ≤ (g 8 p1.toInt.toNat).toInt ∧ (g 8 p1.toInt.toNat).toInt ≤ 6) : Pc (fX12_waitsSet fu p1 g L) (fun x g1 _ => g1 = g ∧ x = wSn g p1.toInt.toNat (g 8 p1.toInt.toNat).toInt.toNat) := by
  unfold fX12_waitsSet fX12_waitsSet_l4
  have eN : p1.toNatClampNeg = p1.toInt.toNat := by rw [nc]
  refine pc_loop (fun v => (0 ≤ v.2.1.toInt ∧ v.2.1.toInt ≤ (g 8 p1.toInt.toNat).toInt) ∧ v.2.2.1 = g ∧ v.1 = wSn g p1.toInt.toNat v.2.1.toInt.toNat) (fun k hk v hv => ?_) ⟨(show 0 ≤ (0 : Int32).toInt ∧ (0 : Int32).toInt ≤ (g 8 p1.toInt.toNat).toInt from ⟨by decide, hr.1⟩), rfl, rfl⟩
  obtain ⟨v2, v3, g', L'⟩ := v
  obtain ⟨hb, e, hw⟩ := hv
  replace hb : 0 ≤ v3.toInt ∧ v3.toInt ≤ (g 8 p1.toInt.toNat).toInt := hb
  replace e : g' = g := e
  replace hw : v2 = wSn g p1.toInt.toNat v3.toInt.toNat := hw
  subst e
  show Pc (fX12_waitsSet_s4 fu p1 k v2 v3 g' L') _
  unfold fX12_waitsSet_s4
  rw [eN]
  refine pc_ck (fun _ _ => pc_ite (fun c => pc_some ⟨rfl, ?_⟩) (fun c => pc_ck (fun _ _ => pc_lti (fun x ex => hk _ ?_))))
  · have c := icc_le (m := (g' 8 p1.toInt.toNat).toInt) (n := v3.toInt) rfl rfl c
    rw [hw, show v3.toInt.toNat = (g' 8 p1.toInt.toNat).toInt.toNat by omega]
  · have c := icc_nle (m := (g' 8 p1.toInt.toNat).toInt) (n := v3.toInt) rfl rfl c
    have ew : (v3 + 1).toInt = v3.toInt + 1 := ic_addc rfl (by decide) (by omega) (by omega)
    have e6 : (6 * p1).toInt = 6 * p1.toInt := ic_mulc (by decide) rfl (by omega) (by omega)
    have e7 : (6 * p1 + v3).toInt = 6 * p1.toInt + v3.toInt := ic_addc e6 rfl (by omega) (by omega)
    have e8 : (6 * p1 + v3).toNatClampNeg = 6 * p1.toInt.toNat + v3.toInt.toNat := by rw [nc, e7]; omega
    rw [e8] at ex
    refine ⟨(show 0 ≤ (v3 + 1).toInt ∧ (v3 + 1).toInt ≤ (g' 8 p1.toInt.toNat).toInt by omega), rfl, ?_⟩
    show x = wSn g' p1.toInt.toNat (v3 + 1).toInt.toNat
    rw [ew, show (v3.toInt + 1).toNat = v3.toInt.toNat + 1 by omega, ex, hw]
    rfl
theorem cd_lesson {fu : Nat} {p1 p2 : Int32} {g gm g1 g2 : gT} {L Lm L1 L2 : lT} {rx : Except String Int32} {rm : Int32} (hp : CP g gm) (h : CD g gm) (e1 : fX11_lesson_0 fu p1 p2 g L = some (rx, (g1, L1))) (e2 : fX12_lesson fu p1 p2 gm Lm = some (rm, (g2, L2))) : (rx = .ok rm ∧ g2 0 0 = 0) ∨ (rx = .error NSE ∧ g2 0 0 = 1) := by
  have hI := hp.2.1
  obtain ⟨k1, k2, k3, k4, -⟩ := hp.2.2.2.2.2.2.1
  have r1 := hI 0 1 0 12 rfl
  have a0 : upd2 gm 0 0 0 0 0 = 0 := upd2_at
  have a1 : upd2 gm 0 0 0 0 1 = gm 0 1 := rfl
  unfold fX11_lesson_0 at e1
  unfold fX12_lesson fX12_lesson_p23 at e2
  unfold sti at e2
  have e2 : cb (fX12_isLesson fu p1 (upd2 gm 0 0 0) Lm) _ = some (rm, (g2, L2)) := e2
  by_cases c1 : isL (gm 0 1) p1
  rotate_left
  · rw [xneed0 (by rw [k1]; exact c1)] at e1
    have e1 : some (.error NSE, (g, L)) = some (rx, (g1, L1)) := e1
    rw [lesson0 a0 (by rw [a1]; exact c1)] at e2
    have e2 : some ((0 : Int32), (upd2 (upd2 gm 0 0 0) 0 0 1, Lm)) = some (rm, (g2, L2)) := e2
    cases e1; cases e2
    exact Or.inr ⟨rfl, upd2_at⟩
  rw [xneed1 (by rw [k1]; exact c1), cbxs] at e1
  rw [lesson1 a0 (by rw [a1]; exact c1), cbs, if_neg (by decide)] at e2
  have i11 : (11 : Int32).toInt = 11 := rfl
  have i12 : (12 : Int32).toInt = 12 := rfl
  by_cases c2 : 0 ≤ p2.toInt ∧ p2.toInt ≤ (11 : Int32).toInt
  rotate_left
  · rw [xwhat0 (fun hh => c2 (by omega))] at e1
    have e1 : some (.error NSE, (g, L)) = some (rx, (g1, L1)) := e1
    rw [what0 a0 c2] at e2
    have e2 : some ((0 : Int32), (upd2 (upd2 gm 0 0 0) 0 0 1, Lm)) = some (rm, (g2, L2)) := e2
    cases e1; cases e2
    exact Or.inr ⟨rfl, upd2_at⟩
  rw [xwhat1 c2.1 (by omega), cbxs] at e1
  rw [what1 a0 c2.1 c2.2, cbs, if_neg (by decide)] at e2
  have hl := l12 c1 (by omega)
  have eN : p1.toNatClampNeg = p1.toInt.toNat := by rw [nc]
  generalize hi : p1.toInt.toNat = i at *
  have hi12 : i < 12 := by omega
  have hin : (i : Int) < (gm 0 1).toInt := by have := c1.2; omega
  obtain ⟨⟨l1, l2, l3, l4⟩, ⟨l5, l6, l7, l8⟩, l9, -⟩ := h.1.1 i hin
  obtain ⟨h1, h2, h3, h4⟩ := h.2.1.1 i hin
  have pk : ∀ (c : Int32) (C : Nat), c.toInt = (C : Int) → C ≤ 36 → (c + p1).toNatClampNeg = C + i := by
    intro c C hc hC
    rw [nc, ic_addc hc rfl (by omega) (by omega)]; omega
  have p0 := pk 0 0 rfl (by decide)
  have p12 := pk 12 12 rfl (by decide)
  have p24 := pk 24 24 rfl (by decide)
  have p36 := pk 36 36 rfl (by decide)
  rw [show 0 + i = i by omega] at p0
  have nk : ∀ k j, k ≠ 0 → upd2 gm 0 0 0 k j = gm k j := fun k j hk => upd2_nk hk
  unfold ltn at e1
  have em : i % 12 = i := by omega
  rw [eN, em, ck_eq (by omega) (by omega)] at e1
  rw [eN, p0, p12, p24, p36] at e2
  have done : ∀ {x y : Int32} {La Lb : lT}, some ((.ok x : Except String Int32), ((g, La) : zS)) = some (rx, (g1, L1)) → some (y, ((upd2 gm 0 0 0, Lb) : zS)) = some (rm, (g2, L2)) → x = y → (rx = .ok rm ∧ g2 0 0 = 0) ∨ (rx = .error NSE ∧ g2 0 0 = 1) := by
    intro x y La Lb u v w
    cases u; cases v
    exact Or.inl ⟨by rw [w], upd2_at⟩
  have ckx : ∀ {K : Option (Except String Int32 × zS)} {N : Nat}, 12 ≤ N → ck p1 N K = K := fun hN => ck_eq (by omega) (by omega)
  have ckm : ∀ {K : Option (Int32 × zS)} {N : Nat}, 12 ≤ N → ck p1 N K = K := fun hN => ck_eq (by omega) (by omega)
  have ckp : ∀ {K : Option (Int32 × zS)} {c : Int32} {C : Nat}, c.toInt = (C : Int) → C ≤ 36 → ck (c + p1) 48 K = K := fun hc hC => by
    have e := ic_addc (x := _) (y := p1) hc rfl (by omega) (by omega)
    exact ck_eq (by omega) (by omega)
  rcases (by omega : p2.toInt = 0 ∨ p2.toInt = 1 ∨ p2.toInt = 2 ∨ p2.toInt = 3 ∨ p2.toInt = 4 ∨ p2.toInt = 5 ∨ p2.toInt = 6 ∨ p2.toInt = 7 ∨ p2.toInt = 8 ∨ p2.toInt = 9 ∨ p2.toInt = 10 ∨ p2.toInt = 11) with q | q | q | q | q | q | q | q | q | q | q | q
  all_goals simp only [q, reduceIte, Int.reduceEq] at e1 e2
  · rw [ckm (by decide)] at e2
    exact done e1 e2 (by rw [nk 1 i (by decide)]; exact l1)
  · rw [ckm (by decide)] at e2
    exact done e1 e2 (by rw [nk 2 i (by decide)]; exact l2)
  · rw [ckm (by decide)] at e2
    exact done e1 e2 (by rw [nk 3 i (by decide)]; exact l3)
  · rw [ckx (by decide)] at e1
    rw [ckp (C := 0) rfl (by decide)] at e2
    exact done e1 e2 (by rw [nk 12 i (by decide)]; exact h1)
  · rw [ckx (by decide)] at e1
    rw [ckp (C := 24) rfl (by decide)] at e2
    exact done e1 e2 (by rw [nk 12 _ (by decide)]; exact h3)
  · rw [ckm (by decide)] at e2
    exact done e1 e2 (by rw [nk 4 i (by decide)]; exact l4)
  · rw [ckm (by decide)] at e2
    exact done e1 e2 (by rw [nk 5 i (by decide)]; exact l5)
  · rw [ckm (by decide)] at e2
    exact done e1 e2 (by rw [nk 6 i (by decide)]; exact l6)
  · have r8 := hI 8 i 0 6 rfl
    obtain ⟨x, ga, La, ea, e⟩ := cb_some e2
    obtain ⟨hg, hx⟩ := waits_m (fu := fu) (p1 := p1) (g := upd2 gm 0 0 0) (L := Lm) hl.1 hl.2 (by rw [hi, nk 8 i (by decide)]; exact r8) _ _ _ ea
    subst hg
    rw [hi, nk 8 i (by decide), wSn_c (gm := gm) (funext fun j => nk 9 j (by decide))] at hx
    exact done e1 e (l9.trans hx.symm)
  · rw [ckx (by decide)] at e1
    rw [ckp (C := 36) rfl (by decide)] at e2
    exact done e1 e2 (by rw [nk 12 _ (by decide)]; exact h4)
  · rw [ckm (by decide)] at e2
    exact done e1 e2 (by rw [nk 7 i (by decide)]; exact l7)
  · rw [ckx (by decide)] at e1
    rw [ckp (C := 12) rfl (by decide)] at e2
    exact done e1 e2 (by rw [nk 12 _ (by decide)]; exact h2)
/-- class and reference, side by side: counts and data -/
def CQ (g gm : gT) : Prop := CP g gm ∧ CD g gm
