/-! ===== day and chain answer alike ===== -/
theorem late_x {cs : Nat → List Int} {n i fu : Nat} {p1 : Int32} {g d : gT} {L : lT} (h : DC cs n g d) (hi : p1.toInt = (i : Int)) (ni : i < n) : Pc (fX1_late_8 fu p1 g L) (fun x g1 _ => g1 = g ∧ x = g 44 i - d 2 i) := by
  have n12 := h.1.2
  have ei : p1.toNatClampNeg = i := by rw [nc, hi]; omega
  unfold fX1_late_8
  rw [ei, show i % 12 = i by omega]
  refine pc_ck (fun _ _ => pc_ck (fun _ _ => pc_ltn (fun q eq => pc_some ⟨rfl, ?_⟩)))
  rw [eq, (h.2.1 i ni).1.1.2.1]
theorem late_m {i fu : Nat} {p1 : Int32} {g d : gT} {L : lT} (e : Em d g) (hi : p1.toInt = (i : Int)) : Pc (fX12_late fu p1 g L) (fun x g1 _ => g1 = g ∧ x = g 32 i - d 2 i) := by
  have ei : p1.toNatClampNeg = i := by rw [nc, hi]; omega
  unfold fX12_late
  rw [ei]
  exact pc_ck (fun _ _ => pc_ck (fun _ _ => pc_some ⟨rfl, by rw [e 2 (by omega)]⟩))
/-- both days, run from where all began -/
theorem both {fu : Nat} {g gm ge g1 g2 : gT} {L Lm L1 L2 : lT} {x y : Unit} (h : CR g gm) (he : E0 gm ge) (e1 : fX1_runFrom_8 fu 0 g L = some (x, (g1, L1))) (e2 : fX12_works0 fu ge Lm = some (y, (g2, L2))) : ∃ cs, SD (gm 0 1).toInt.toNat g1 g2 ∧ DC cs (gm 0 1).toInt.toNat g1 ge ∧ MD cs (gm 0 1).toInt.toNat ge ∧ WR cs ge (gm 0 1).toInt.toNat g2 := by
  obtain ⟨cs, hX, hM⟩ := dc_r h
  have hX := hX.d he
  have hM := hM.d he
  exact ⟨cs, days hX hM e1 e2, hX.c (rf_x hX (f := 0) rfl (Nat.zero_le _) x g1 L1 e1).2.2, hM, wk_m hM y g2 L2 e2⟩
theorem works_0 {fu : Nat} {ge g2 : gT} {Lm L2 : lT} {y : Unit} (e2 : fX12_works0 fu ge Lm = some (y, (g2, L2))) : g2 0 0 = ge 0 0 := w_fX12_works0 ge fu ge Lm FW.refl y (g2, L2) e2 0 0 (by decide) (by decide)
theorem e0_u {gm : gT} {x : Int32} : E0 gm (upd2 gm 0 0 x) := fun k j hh => u00 hh
theorem cr_day {fu : Nat} {p1 p2 : Int32} {g gm g1 g2 : gT} {L Lm L1 L2 : lT} {rx : Except String Int32} {rm : Int32} (h : CR g gm) (e1 : fX11_day_0 fu p1 p2 g L = some (rx, (g1, L1))) (e2 : fX12_day fu p1 p2 gm Lm = some (rm, (g2, L2))) : (rx = .ok rm ∧ g2 0 0 = 0) ∨ (rx = .error NSE ∧ g2 0 0 = 1) := by
  have hp := h.1.1
  have hI := hp.2.1
  obtain ⟨k1, -⟩ := hp.2.2.2.2.2.2.1
  have r1 := hI 0 1 0 12 rfl
  have a0 : upd2 gm 0 0 0 0 0 = 0 := upd2_at
  have a1 : upd2 gm 0 0 0 0 1 = gm 0 1 := rfl
  unfold fX11_day_0 at e1
  unfold fX12_day fX12_day_p22 fX12_day_p88 at e2
  unfold sti at e2
  have e2 : cb (fX12_isLesson fu p1 (upd2 gm 0 0 0) Lm) _ = some (rm, (g2, L2)) := e2
  by_cases c1 : isL (gm 0 1) p1
  rotate_left
  · rw [xneed0 (by rw [k1]; exact c1)] at e1
    have e1 : some (.error NSE, (g, L)) = some (rx, (g1, L1)) := e1
    rw [lesson0 a0 (by rw [a1]; exact c1)] at e2
    have e2 : some ((0 : Int32), (upd2 (upd2 gm 0 0 0) 0 0 1, Lm)) = some (rm, (g2, L2)) := e2
    cases e1; cases e2
    exact Or.inr ⟨rfl, upd2_at⟩
  rw [xneed1 (by rw [k1]; exact c1), cbxs] at e1
  rw [lesson1 a0 (by rw [a1]; exact c1), cbs, if_neg (by decide)] at e2
  have i4 : (4 : Int32).toInt = 4 := rfl
  have i5 : (5 : Int32).toInt = 5 := rfl
  by_cases c2 : 0 ≤ p2.toInt ∧ p2.toInt ≤ (4 : Int32).toInt
  rotate_left
  · rw [xwhat0 (fun hh => c2 (by omega))] at e1
    have e1 : some (.error NSE, (g, L)) = some (rx, (g1, L1)) := e1
    rw [what0 a0 c2] at e2
    have e2 : some ((0 : Int32), (upd2 (upd2 gm 0 0 0) 0 0 1, Lm)) = some (rm, (g2, L2)) := e2
    cases e1; cases e2
    exact Or.inr ⟨rfl, upd2_at⟩
  rw [xwhat1 c2.1 (by omega), cbxs] at e1
  rw [what1 a0 c2.1 c2.2, cbs, if_neg (by decide)] at e2
  obtain ⟨xa, ga, La, ea, e1⟩ := cb_some e1
  obtain ⟨xb, gb, Lb, eb, e2⟩ := cb_some e2
  obtain ⟨cs, hS, hX, hM, hW⟩ := both h e0_u ea eb
  have z0 : gb 0 0 = 0 := by rw [works_0 eb]; exact a0
  have hl := l12 c1 (by omega)
  obtain ⟨i, hi⟩ : ∃ i : Nat, p1.toInt = (i : Int) := ⟨p1.toInt.toNat, by omega⟩
  have ni : i < (gm 0 1).toInt.toNat := by have := c1.2; omega
  have ei : p1.toNatClampNeg = i := by rw [nc, hi]; omega
  obtain ⟨s1, s2, s3, s4⟩ := hS i ni
  have ckx : ∀ {K : Option (Except String Int32 × zS)}, ck p1 12 K = K := ck_eq (by omega) (by omega)
  have ckm : ∀ {K : Option (Int32 × zS)}, ck p1 12 K = K := ck_eq (by omega) (by omega)
  have ne : ∀ {c : Int32} {m : Int}, c.toInt = m → p2.toInt ≠ m → ¬ p2 = c := fun a b e => b (by rw [e]; exact a)
  have done : ∀ {u v : Int32} {La' Lb' : lT}, some ((.ok u : Except String Int32), ((ga, La') : zS)) = some (rx, (g1, L1)) → some (v, ((gb, Lb') : zS)) = some (rm, (g2, L2)) → u = v → (rx = .ok rm ∧ g2 0 0 = 0) ∨ (rx = .error NSE ∧ g2 0 0 = 1) := by
    intro u v La' Lb' x y w
    cases x; cases y
    exact Or.inl ⟨by rw [w], z0⟩
  rcases (by omega : p2.toInt = 0 ∨ p2.toInt = 1 ∨ p2.toInt = 2 ∨ p2.toInt = 3 ∨ p2.toInt = 4) with q | q | q | q | q
  · rw [if_pos q, ckx, ei] at e1
    rw [if_pos (ic_eq.mpr q), ckm, ei] at e2
    exact done e1 e2 s1
  · rw [if_neg (by omega), if_pos q, ckx, ei] at e1
    rw [if_neg (ne (m := 0) rfl (by omega)), if_pos (ic_eq.mpr q), ckm, ei] at e2
    exact done e1 e2 s2
  · rw [if_neg (by omega), if_neg (by omega), if_pos q] at e1
    rw [if_neg (ne (m := 0) rfl (by omega)), if_neg (ne (m := 1) rfl (by omega)), if_pos (ic_eq.mpr q)] at e2
    obtain ⟨xc, gc, Lc, ec, e3⟩ := cb_some e1
    obtain ⟨xd, gd, Ld, ed, e4⟩ := cb_some e2
    obtain ⟨u0, u⟩ := late_x hX hi ni _ _ _ ec
    obtain ⟨v0, v⟩ := late_m hW.2 hi _ _ _ ed
    rw [u0] at e3
    rw [v0] at e4
    exact done e3 e4 (by rw [u, v, s2])
  · rw [if_neg (by omega), if_neg (by omega), if_neg (by omega), if_pos q, ckx, ei] at e1
    rw [if_neg (ne (m := 0) rfl (by omega)), if_neg (ne (m := 1) rfl (by omega)), if_neg (ne (m := 2) rfl (by omega)), if_pos (ic_eq.mpr q), ckm, ei] at e2
    exact done e1 e2 s3
  · rw [if_neg (by omega), if_neg (by omega), if_neg (by omega), if_neg (by omega), ckx, ei] at e1
    rw [if_neg (ne (m := 0) rfl (by omega)), if_neg (ne (m := 1) rfl (by omega)), if_neg (ne (m := 2) rfl (by omega)), if_neg (ne (m := 3) rfl (by omega)), ckm, ei] at e2
    exact done e1 e2 s4
/-- who began it: s steps back -/
def itS (B : Nat → Int32) (a : Int32) : Nat → Int32
  | 0 => a
  | s + 1 => if itS B a s = -1 then -1 else B (itS B a s).toInt.toNat
theorem it_s {B : Nat → Int32} {a : Int32} {s : Nat} (h : ¬ itS B a s = -1) : itS B a (s + 1) = B (itS B a s).toInt.toNat := if_neg h
theorem it_n {B : Nat → Int32} {a : Int32} {s : Nat} (h : itS B a s = -1) : ∀ t, s ≤ t → itS B a t = -1 := by
  intro t
  induction t with
  | zero => intro ht; rw [show s = 0 by omega] at h; exact h
  | succ t ih =>
    intro ht
    rcases (by omega : s ≤ t ∨ s = t + 1) with hh | hh
    · exact if_pos (ih hh)
    · rw [← hh]; exact h
/-- one goes back to lessons ahead -/
def BK (n : Nat) (B : Nat → Int32) : Prop := ∀ i, i < n → B i = -1 ∨ (0 ≤ (B i).toInt ∧ (B i).toInt < (i : Int))
theorem bk_of {cs : Nat → List Int} {d : gT} {n : Nat} {bg en ru by_ : Nat → Int32} (hW : WF n d) (h : DY cs d n bg en ru by_) : BK n by_ := by
  intro i hi
  rcases (h i hi).1 with ⟨-, -, y⟩ | ⟨-, v, -, ⟨-, -, y⟩ | ⟨-, -, -, y⟩ | ⟨-, -, -, k, k1, y, -⟩⟩
  · exact Or.inl y
  · exact Or.inl y
  · exact Or.inl y
  · rw [y]; exact Or.inr ((hW i hi).2.2 k (by omega))
theorem it_b {n : Nat} {B : Nat → Int32} {a : Int32} (hB : BK n B) (h0 : 0 ≤ a.toInt) (h1 : a.toInt < (n : Int)) : ∀ s : Nat, itS B a s = -1 ∨ (0 ≤ (itS B a s).toInt ∧ (itS B a s).toInt + (s : Int) < (n : Int)) := by
  intro s
  induction s with
  | zero => exact Or.inr ⟨h0, by show a.toInt + 0 < _; omega⟩
  | succ s ih =>
    by_cases c : itS B a s = -1
    · exact Or.inl (if_pos c)
    · rw [it_s c]
      rcases ih with e | ⟨e1, e2⟩
      · exact absurd e c
      · rcases hB (itS B a s).toInt.toNat (by omega) with e | ⟨e3, e4⟩
        · exact Or.inl e
        · exact Or.inr ⟨e3, by omega⟩
theorem it_c {n : Nat} {B B' : Nat → Int32} {a : Int32} (hB : BK n B) (e : ∀ i, i < n → B i = B' i) (h0 : 0 ≤ a.toInt) (h1 : a.toInt < (n : Int)) : ∀ s : Nat, itS B a s = itS B' a s := by
  intro s
  induction s with
  | zero => rfl
  | succ s ih =>
    by_cases c : itS B a s = -1
    · rw [it_n c (s + 1) (by omega), it_n (ih.symm.trans c) (s + 1) (by omega)]
    · rw [it_s c, it_s (fun e' => c (ih.trans e')), ← ih]
      rcases it_b hB h0 h1 s with e' | ⟨e1, e2⟩
      · exact absurd e' c
      · exact e _ (by omega)
theorem ch_x {n I fu : Nat} {p1 p2 : Int32} {g : gT} {L : lT} (hB : BK n (g 46)) (n12 : n ≤ 12) (h0 : 0 ≤ p1.toInt) (h1 : p1.toInt < (n : Int)) (hI : p2.toInt = (I : Int)) : Pc (fX11_chain_0_l30 fu p2 p1 0 g L) (fun x _ _ => x = .ok (itS (g 46) p1 I)) := by
  unfold fX11_chain_0_l30
  refine pc_loop (fun v => ∃ s : Nat, v.2.1.toInt = (s : Int) ∧ s ≤ I ∧ s ≤ 12 ∧ v.1 = itS (g 46) p1 s ∧ v.2.2.1 = g) (fun k hk v hv => ?_) ⟨0, rfl, by omega, by omega, rfl, rfl⟩
  obtain ⟨v3, v4, g', L'⟩ := v
  obtain ⟨s, hs, sI, s12, e3, eg⟩ := hv
  replace hs : v4.toInt = (s : Int) := hs
  replace e3 : v3 = itS (g 46) p1 s := e3
  replace eg : g' = g := eg
  subst eg
  show Pc (fX11_chain_0_s30 fu p2 k v3 v4 g' L') _
  unfold fX11_chain_0_s30 fX11_chain_0_p64
  refine pc_ite (fun c => pc_some ?_) (fun c => pc_ite (fun c1 => pc_some ?_) (fun c1 => pc_ite (fun c2 => pc_some ?_) (fun c2 => pc_ck (fun _ _ => pc_lti (fun x e => hk _ ⟨s + 1, ?_, ?_, ?_, ?_, rfl⟩)))))
  · have c := icc_le hI hs c
    rw [e3, show s = I by omega]
  · rw [e3] at c1
    rw [e3, c1, it_n c1 I sI]
  · have c2 := icc_le (m := 12) rfl hs c2
    exfalso
    rcases it_b hB h0 h1 s with e | e
    · exact c1 (by rw [e3]; exact e)
    · omega
  · show (v4 + 1).toInt = _
    rw [ic_addc hs (n := 1) rfl (by omega) (by omega)]; omega
  · have c := icc_nle hI hs c
    omega
  · have c2 := icc_nle (m := 12) rfl hs c2
    omega
  · show x = _
    rw [it_s (by rw [← e3]; exact c1), ← e3, e, nc]
theorem ch_m {n I fu : Nat} {p1 p2 : Int32} {g : gT} {L : lT} (hI : p2.toInt = (I : Int)) : Pc (fX12_chain_l41 fu p2 p1 0 g L) (fun x g1 _ => g1 = g ∧ x = itS (g 34) p1 I) := by
  unfold fX12_chain_l41
  have rg := ic_rg p2
  refine pc_loop (fun v => ∃ s : Nat, v.2.1.toInt = (s : Int) ∧ s ≤ I ∧ v.1 = itS (g 34) p1 s ∧ v.2.2.1 = g) (fun k hk v hv => ?_) ⟨0, rfl, by omega, rfl, rfl⟩
  obtain ⟨v3, v4, g', L'⟩ := v
  obtain ⟨s, hs, sI, e3, eg⟩ := hv
  replace hs : v4.toInt = (s : Int) := hs
  replace e3 : v3 = itS (g 34) p1 s := e3
  replace eg : g' = g := eg
  subst eg
  show Pc (fX12_chain_s41 fu p2 k v3 v4 g' L') _
  unfold fX12_chain_s41 fX12_chain_p65
  refine pc_ite (fun c => pc_some ⟨rfl, ?_⟩) (fun c => pc_ite (fun c1 => pc_some ⟨rfl, ?_⟩) (fun c1 => pc_ck (fun _ _ => pc_lti (fun x e => hk _ ⟨s + 1, ?_, ?_, ?_, rfl⟩))))
  · have c := icc_le hI hs c
    rw [e3, show s = I by omega]
  · rw [e3] at c1
    rw [e3, c1, it_n c1 I sI]
  · have c := icc_nle hI hs c
    show (v4 + 1).toInt = _
    rw [ic_addc hs (n := 1) rfl (by omega) (by omega)]; omega
  · have c := icc_nle hI hs c
    omega
  · show x = _
    rw [it_s (by rw [← e3]; exact c1), ← e3, e, nc]
theorem cr_chain {fu : Nat} {p1 p2 : Int32} {g gm g1 g2 : gT} {L Lm L1 L2 : lT} {rx : Except String Int32} {rm : Int32} (h : CR g gm) (e1 : fX11_chain_0 fu p1 p2 g L = some (rx, (g1, L1))) (e2 : fX12_chain fu p1 p2 gm Lm = some (rm, (g2, L2))) : (rx = .ok rm ∧ g2 0 0 = 0) ∨ (rx = .error NSE ∧ g2 0 0 = 1) := by
  have hp := h.1.1
  have hI := hp.2.1
  obtain ⟨k1, -⟩ := hp.2.2.2.2.2.2.1
  have r1 := hI 0 1 0 12 rfl
  have a0 : upd2 gm 0 0 0 0 0 = 0 := upd2_at
  have a1 : upd2 gm 0 0 0 0 1 = gm 0 1 := rfl
  unfold fX11_chain_0 at e1
  unfold fX12_chain fX12_chain_p30 fX12_chain_p23 fX12_chain_p30 at e2
  unfold sti at e2
  have e2 : cb (fX12_isLesson fu p1 (upd2 gm 0 0 0) Lm) _ = some (rm, (g2, L2)) := e2
  by_cases c1 : isL (gm 0 1) p1
  rotate_left
  · rw [xneed0 (by rw [k1]; exact c1)] at e1
    have e1 : some (.error NSE, (g, L)) = some (rx, (g1, L1)) := e1
    rw [lesson0 a0 (by rw [a1]; exact c1)] at e2
    have e2 : some ((0 : Int32), (upd2 (upd2 gm 0 0 0) 0 0 1, Lm)) = some (rm, (g2, L2)) := e2
    cases e1; cases e2
    exact Or.inr ⟨rfl, upd2_at⟩
  rw [xneed1 (by rw [k1]; exact c1), cbxs] at e1
  rw [lesson1 a0 (by rw [a1]; exact c1), cbs, if_neg (by decide)] at e2
  by_cases c2 : p2 < 0
  · have c2' := icc_lt (m := p2.toInt) (n := 0) rfl rfl c2
    rw [if_neg (fun e => by have := icc_le (m := 0) (n := p2.toInt) rfl rfl e; omega)] at e1
    rw [if_pos c2, right0 a0 (by decide), cbs, if_pos rfl] at e2
    cases e1; cases e2
    exact Or.inr ⟨rfl, upd2_at⟩
  have c2' := icc_nlt (m := p2.toInt) (n := 0) rfl rfl c2
  rw [if_pos (ic_le.mpr (by show (0 : Int) ≤ _; omega))] at e1
  rw [if_neg c2, right1 a0, cbs, if_neg (by decide)] at e2
  obtain ⟨xa, ga, La, ea, e1⟩ := cb_some e1
  obtain ⟨xb, gb, Lb, eb, e2⟩ := cb_some e2
  obtain ⟨cs, hS, hX, hM, hW⟩ := both h e0_u ea eb
  have z0 : gb 0 0 = 0 := by rw [works_0 eb]; exact a0
  have hl := l12 c1 (by omega)
  obtain ⟨I, hI'⟩ : ∃ I : Nat, p2.toInt = (I : Int) := ⟨p2.toInt.toNat, by omega⟩
  have bk : BK (gm 0 1).toInt.toNat (gb 34) := bk_of hM.2.1 hW.1
  have bx : BK (gm 0 1).toInt.toNat (ga 46) := fun i hi => by rw [(hS i hi).2.2.2]; exact bk i hi
  have pn : p1.toInt < (((gm 0 1).toInt.toNat : Nat) : Int) := by have := c1.2; omega
  have u := ch_x bx hX.1.2 c1.1 pn hI' _ _ _ e1
  obtain ⟨v0, v⟩ := ch_m (n := 12) hI' _ _ _ e2
  refine Or.inl ⟨?_, by rw [v0]; exact z0⟩
  rw [u, v, it_c bx (fun i hi => (hS i hi).2.2.2) c1.1 pn I]
