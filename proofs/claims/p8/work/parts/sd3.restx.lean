/-! ===== the class's trials put back what they changed ===== -/
/-- places that trials may change for a while -/
def cY (k j : Nat) : Prop := (25 ≤ k ∧ k ≤ 28 ∧ j < 12) ∨ (k = 6 ∧ j = 11) ∨ (57 ≤ k ∧ k ≤ 68) ∨ (k = 8 ∧ (j = 8 ∨ j = 9))
/-- but for S they are as they were -/
def Rs (S : Nat → Nat → Prop) (g g1 : gT) : Prop := ∀ k j, cY k j → ¬ S k j → g1 k j = g k j
abbrev S0 : Nat → Nat → Prop := fun _ _ => False
abbrev S1 (k i : Nat) : Nat → Nat → Prop := fun a b => a = k ∧ b = i
theorem Rs.refl {S : Nat → Nat → Prop} {g : gT} : Rs S g g := fun _ _ _ _ => rfl
theorem Rs.tr {S : Nat → Nat → Prop} {g g1 g2 : gT} (h1 : Rs S g g1) (h2 : Rs S g1 g2) : Rs S g g2 := fun k j a c => (h2 k j a c).trans (h1 k j a c)
theorem Rs.mo {S S' : Nat → Nat → Prop} {g g1 : gT} (h : Rs S g g1) (hS : ∀ k j, S k j → S' k j) : Rs S' g g1 := fun k j a c => h k j a (fun hs => c (hS k j hs))
theorem Rs.m0 {S : Nat → Nat → Prop} {g g1 : gT} (h : Rs S0 g g1) : Rs S g g1 := h.mo (fun _ _ h => absurd h id)
theorem Rs.st {S : Nat → Nat → Prop} {g g1 g2 : gT} {k i : Nat} {x : Int32} (h : Rs S g g1) (e : g2 = upd2 g1 k i x) (hS : S k i) : Rs S g g2 := fun a b hc hn => by
  rw [e]
  by_cases ha : a = k
  · subst ha
    by_cases hb : b = i
    · subst hb; exact absurd hS hn
    · rw [upd2_nj hb]; exact h a b hc hn
  · rw [upd2_nk ha]; exact h a b hc hn
/-- written elsewhere -/
theorem Rs.so {S : Nat → Nat → Prop} {g g1 g2 : gT} {k i : Nat} {x : Int32} (h : Rs S g g1) (e : g2 = upd2 g1 k i x) (hS : ¬ cY k i) : Rs S g g2 := fun a b hc hn => by
  rw [e]
  by_cases ha : a = k
  · subst ha
    by_cases hb : b = i
    · subst hb; exact absurd hc hS
    · rw [upd2_nj hb]; exact h a b hc hn
  · rw [upd2_nk ha]; exact h a b hc hn
abbrev rxC : List Nat := [25, 26, 27, 28, 57, 58, 59, 60, 61, 62, 63, 64, 65, 66, 67, 68]
theorem rxC_m : ∀ k, k < 69 → (25 ≤ k ∧ k ≤ 28) ∨ (57 ≤ k ∧ k ≤ 68) → k ∈ rxC := by decide
abbrev okR (A : List (Nat × Nat)) (B : List Nat) : Prop := okw rxC [(6, 11), (8, 8), (8, 9)] A B = true
theorem Rs.f {S : Nat → Nat → Prop} {A : List (Nat × Nat)} {B : List Nat} {g g0 g1 : gT} (h : Rs S g g0) (f : FW A B g0 g1) (o : okR A B) : Rs S g g1 := fun k j hc hn => by
  rw [← h k j hc hn]
  rcases hc with ⟨a, b, -⟩ | ⟨rfl, rfl⟩ | ⟨a, b⟩ | ⟨rfl, rfl | rfl⟩
  · rw [okw_c o f (rxC_m k (by omega) (Or.inl ⟨a, b⟩))]
  · exact okw_f o f (by decide)
  · rw [okw_c o f (rxC_m k (by omega) (Or.inr ⟨a, b⟩))]
  · exact okw_f o f (by decide)
  · exact okw_f o f (by decide)
/-- put back -/
theorem Rs.bk {S : Nat → Nat → Prop} {g g1 g2 : gT} {k i : Nat} {x : Int32} (h : Rs S g g1) (e : g2 = upd2 g1 k i x) (hx : x = g k i) : Rs (fun a b => S a b ∧ ¬ (a = k ∧ b = i)) g g2 := fun a b hc hn => by
  rw [e]
  by_cases ha : a = k
  · subst ha
    by_cases hb : b = i
    · subst hb; rw [upd2_at]; exact hx
    · rw [upd2_nj hb]; exact h a b hc (fun hs => hn ⟨hs, fun h => hb h.2⟩)
  · rw [upd2_nk ha]; exact h a b hc (fun hs => hn ⟨hs, fun h => ha h.1⟩)
theorem Rs.b1 {g g1 g2 : gT} {k i : Nat} {x : Int32} (h : Rs (S1 k i) g g1) (e : g2 = upd2 g1 k i x) (hx : x = g k i) : Rs S0 g g2 := (h.bk e hx).mo (fun _ _ h => h.2 h.1)
section RX
variable {fu : Nat} {g : gT} {L : lT}
theorem rs_runMore {p1 p2 : Int32} (h9 : g 8 9 = -1) : Pc (fX10_runMore_9 fu p1 p2 g L) (fun _ g1 _ => Rs S0 g g1) := by
  unfold fX10_runMore_9
  refine pc_ck (fun _ _ => pc_lti (fun x ex => pc_ck (fun _ _ => pc_st (fun g2 e2 => pc_st (fun g3 e3 => pc_cb (pc_kp (w_fX1_runFrom_8 _ _ _ _ _ FW.refl)) (fun _ g5 L5 f5 => pc_st (fun g8 e8 => pc_ck (fun _ _ => pc_st (fun g9 e9 => pc_some ?_)))))))))
  have r2 : Rs (S1 25 p1.toNatClampNeg) g g2 := Rs.refl.st e2 ⟨rfl, rfl⟩
  have r5 : Rs (S1 8 9) g2 g5 := (Rs.refl.st e3 ⟨rfl, rfl⟩).f f5 (by decide)
  have r8 : Rs S0 g2 g8 := r5.b1 e8 (by rw [e2]; exact h9.symm)
  exact (r2.tr r8.m0).b1 e9 ex
theorem rs_reaches {p1 p2 : Int32} (h9 : g 8 9 = -1) : Pc (fX10_leastThatReaches_9 fu p1 p2 g L) (fun _ g1 _ => Rs S0 g g1) := by
  unfold fX10_leastThatReaches_9 fX10_leastThatReaches_9_l6
  refine pc_cb (pc_kp (w_fX10_keepEnds_9 _ _ _ _ FW.refl)) (fun _ g2 L2 f2 => ?_)
  refine pc_loop (fun v => Rs S0 g v.2.1) (fun k hk v hv => ?_) (Rs.refl.f f2 (by decide))
  obtain ⟨v3, g', L'⟩ := v
  replace hv : Rs S0 g g' := hv
  have h9' : g' 8 9 = -1 := (hv 8 9 (Or.inr (Or.inr (Or.inr ⟨rfl, Or.inr rfl⟩))) id).trans h9
  show Pc (fX10_leastThatReaches_9_s6 fu p1 p2 k v3 g' L') _
  unfold fX10_leastThatReaches_9_s6
  refine pc_ite (fun _ => pc_some hv) (fun _ => pc_cb (rs_runMore h9') (fun _ g7 L7 f7 => pc_ck (fun _ _ => pc_ck (fun _ _ => pc_ite (fun _ => hk _ (hv.tr f7)) (fun _ => pc_some (hv.tr f7))))))
theorem rs_slack {p1 : Int32} (h9 : g 8 9 = -1) : Pc (fX10_mostThatDies_9 fu p1 g L) (fun _ g1 _ => Rs S0 g g1) := by
  unfold fX10_mostThatDies_9 fX10_mostThatDies_9_l7
  refine pc_cb (pc_kp (w_fX10_keepEnds_9 _ _ _ _ FW.refl)) (fun _ g2 L2 f2 => ?_)
  refine pc_loop (fun v => Rs S0 g v.2.1) (fun k hk v hv => ?_) (Rs.refl.f f2 (by decide))
  obtain ⟨v3, g', L'⟩ := v
  replace hv : Rs S0 g g' := hv
  have h9' : g' 8 9 = -1 := (hv 8 9 (Or.inr (Or.inr (Or.inr ⟨rfl, Or.inr rfl⟩))) id).trans h9
  show Pc (fX10_mostThatDies_9_s7 fu p1 k v3 g' L') _
  unfold fX10_mostThatDies_9_s7
  refine pc_ite (fun _ => pc_some hv) (fun _ => pc_cb (rs_runMore h9') (fun _ g7 L7 f7 => pc_cb (pc_kp (w_fX10_laterBits_9 _ _ _ _ FW.refl)) (fun _ g11 L11 f11 => ?_)))
  have hv2 := (hv.tr f7).f f11 (by decide)
  exact pc_ite (fun _ => pc_some hv2) (fun _ => hk _ hv2)
/-- an exchange, something, the same exchange -/
theorem exch_x {p1 p2 : Int32} : Pc (fX10_exchange_9 fu p1 p2 g L) (fun _ g1 _ => (0 ≤ p1.toInt ∧ p1.toInt < 12) ∧ (0 ≤ p2.toInt ∧ p2.toInt < 12) ∧ g1 = upd2 (upd2 g 25 p1.toNatClampNeg (g 25 p2.toNatClampNeg)) 25 p2.toNatClampNeg (g 25 p1.toNatClampNeg)) := by
  unfold fX10_exchange_9
  refine pc_ck (fun a1 a2 => pc_lti (fun x ex => pc_ck (fun b1 b2 => pc_ck (fun _ _ => pc_st (fun g2 e2 => pc_ck (fun _ _ => pc_st (fun g3 e3 => pc_some ⟨⟨a1, a2⟩, ⟨b1, b2⟩, ?_⟩)))))))
  rw [e3, e2, ex]
theorem rs_swapped {p1 : Int32} : Pc (fX10_swapped_9 fu p1 g L) (fun _ g1 _ => Rs S0 g g1) := by
  unfold fX10_swapped_9 fX10_swapped_9_l18
  refine pc_cb (pc_kp (w_fX1_lostFrom_8 _ _ _ _ _ FW.refl)) (fun x1 g2 L2 f2 => pc_cb (pc_kp (w_fX4_clear_13 _ _ _ _ FW.refl)) (fun _ g6 L6 f6 => ?_))
  refine pc_loop (fun v => Rs S0 g v.2.1) (fun k hk v hv => ?_) ((Rs.refl.f f2 (by decide)).f f6 (by decide))
  obtain ⟨v3, g', L'⟩ := v
  replace hv : Rs S0 g g' := hv
  show Pc (fX10_swapped_9_s18 fu p1 x1 k v3 g' L') _
  unfold fX10_swapped_9_s18 fX10_swapped_9_p120 fX10_swapped_9_p121
  refine pc_cb (pc_kp (w_fX10_lessonCount_9 _ _ _ _ FW.refl)) (fun _ g10 L10 f10 => ?_)
  have h10 := hv.f f10 (by decide)
  refine pc_ite (fun _ => pc_ite (fun _ => pc_some h10) (fun _ => pc_ite (fun _ => pc_some h10) (fun _ => pc_cb (pc_kp (w_fX4_told_13 _ _ _ _ _ FW.refl)) (fun _ gt Lt ft => pc_some (h10.f ft (by decide)))))) (fun _ => pc_lti (fun x20 _ => ?_))
  unfold fX10_swapped_9_l31
  refine pc_loop (fun v => Rs S0 g v.2.1) (fun k31 hk31 v hv => ?_) h10
  obtain ⟨v4, g'', L''⟩ := v
  replace hv : Rs S0 g g'' := hv
  show Pc (fX10_swapped_9_s31 fu k p1 x1 v3 k31 v4 g'' L'') _
  unfold fX10_swapped_9_s31
  refine pc_cb (pc_kp (w_fX10_lessonCount_9 _ _ _ _ FW.refl)) (fun _ ga La fa => ?_)
  have ha := hv.f fa (by decide)
  refine pc_ite (fun _ => hk _ ha) (fun _ => pc_cb exch_x (fun _ gb Lb fb => pc_cb (pc_kp (w_fX1_lostFrom_8 _ _ _ _ _ FW.refl)) (fun _ gc Lc fc => pc_cb (pc_kp (w_fX4_offer_13 _ _ _ _ _ _ FW.refl)) (fun _ gd Ld fd => pc_cb exch_x (fun _ ge Le fe => hk31 _ (ha.tr ?_))))))
  obtain ⟨⟨a1, a2⟩, ⟨b1, b2⟩, eb⟩ := fb
  obtain ⟨-, -, ee⟩ := fe
  have h1 : v3.toNatClampNeg < 12 := by rw [nc]; omega
  have h2 : v4.toNatClampNeg < 12 := by rw [nc]; omega
  have hd : Rs S0 gb gd := (Rs.refl.f fc (by decide)).f fd (by decide)
  generalize v3.toNatClampNeg = i at *
  generalize v4.toNatClampNeg = j at *
  have di : gd 25 i = gb 25 i := hd 25 i (Or.inl ⟨by decide, by decide, h1⟩) id
  have dj : gd 25 j = gb 25 j := hd 25 j (Or.inl ⟨by decide, by decide, h2⟩) id
  have bj : gb 25 j = ga 25 i := by rw [eb, upd2_at]
  have bi : gb 25 i = ga 25 j := by
    rw [eb]
    by_cases e : i = j
    · rw [e, upd2_at]
    · rw [upd2_nj e, upd2_at]
  intro a b hc hn
  show ge a b = ga a b
  rw [ee]
  by_cases hk : a = 25
  · subst hk
    by_cases hj : b = j
    · rw [hj, upd2_at, di, bi]
    · rw [upd2_nj hj]
      by_cases hi : b = i
      · rw [hi, upd2_at, dj, bj]
      · rw [upd2_nj hi, hd 25 b hc id, eb, upd2_nj hj, upd2_nj hi]
  · rw [upd2_nk hk, upd2_nk hk, hd a b hc id, eb, upd2_nk hk, upd2_nk hk]
theorem row_x {p1 : Int32} : ∃ q, fX3_row_6 fu p1 g L = some (q, (g, L)) ∧ (25 ≤ q ∧ q ≤ 28) ∧ ∀ fu' g' L', fX3_row_6 fu' p1 g' L' = some (q, (g', L')) := by
  unfold fX3_row_6
  by_cases c0 : p1.toInt = 0
  · exact ⟨25, by rw [if_pos c0], by decide, fun _ _ _ => by rw [if_pos c0]⟩
  by_cases c1 : p1.toInt = 1
  · exact ⟨26, by rw [if_neg c0, if_pos c1], by decide, fun _ _ _ => by rw [if_neg c0, if_pos c1]⟩
  by_cases c2 : p1.toInt = 2
  · exact ⟨27, by rw [if_neg c0, if_neg c1, if_pos c2], by decide, fun _ _ _ => by rw [if_neg c0, if_neg c1, if_pos c2]⟩
  · exact ⟨28, by rw [if_neg c0, if_neg c1, if_neg c2], by decide, fun _ _ _ => by rw [if_neg c0, if_neg c1, if_neg c2]⟩
theorem put_x {p1 p2 p3 : Int32} {q : Nat} (hq : ∀ fu' g' L', fX3_row_6 fu' p1 g' L' = some (q, (g', L'))) : Pc (fX3_put_6 fu p1 p2 p3 g L) (fun _ g1 _ => g1 = upd2 g q p2.toNatClampNeg p3) := by
  unfold fX3_put_6
  rw [hq]
  refine pc_ckr (fun _ _ => pc_ck (fun _ _ => pc_st (fun g1 e1 => pc_some e1)))
theorem value_x {p1 p2 : Int32} {q : Nat} (hq : ∀ fu' g' L', fX3_row_6 fu' p1 g' L' = some (q, (g', L'))) : Pc (fX3_value_6 fu p1 p2 g L) (fun x g1 _ => g1 = g ∧ x = g q p2.toNatClampNeg) := by
  unfold fX3_value_6
  rw [hq]
  refine pc_ckr (fun _ _ => pc_ck (fun _ _ => pc_some ⟨rfl, rfl⟩))
theorem rs_leastBy {p1 p2 p3 : Int32} : Pc (fX10_leastBy_9 fu p1 p2 p3 g L) (fun _ g1 _ => Rs S0 g g1) := by
  obtain ⟨q, -, hq, hrow⟩ := row_x (fu := fu) (g := g) (L := L) (p1 := p1)
  unfold fX10_leastBy_9 fX10_leastBy_9_l29
  refine pc_cb (value_x hrow) (fun x1 g2 L2 hv => ?_)
  obtain ⟨rfl, hx1⟩ := hv
  refine pc_cb (pc_kp (w_fX1_runFrom_8 _ _ _ _ _ FW.refl)) (fun _ g6 L6 f6 => pc_cb (pc_kp (w_fX4_clear_13 _ _ _ _ FW.refl)) (fun _ g10 L10 f10 => ?_))
  refine pc_loop (fun v => Rs (S1 q p2.toNatClampNeg) g2 v.2.1) (fun k hk v hv => ?_) ((Rs.refl.f f6 (by decide)).f f10 (by decide))
  obtain ⟨v5, g', L'⟩ := v
  replace hv : Rs (S1 q p2.toNatClampNeg) g2 g' := hv
  show Pc (fX10_leastBy_9_s29 fu p1 p2 p3 x1 k v5 g' L') _
  unfold fX10_leastBy_9_s29
  refine pc_cb (pc_kp (w_fX11_mostOf _ _ _ _ _ FW.refl)) (fun x13 g14 L14 f14 => ?_)
  have h14 := hv.f f14 (by decide)
  refine pc_ite (fun _ => pc_cb (put_x hrow) (fun _ g19 L19 f19 => pc_cb (pc_kp (w_fX4_told_13 _ _ _ _ _ FW.refl)) (fun _ g23 L23 f23 => pc_some ((h14.b1 f19 hx1).f f23 (by decide))))) (fun _ => pc_cb (put_x hrow) (fun _ g27 L27 f27 => pc_cb (pc_kp (w_fX1_lostFrom_8 _ _ _ _ _ FW.refl)) (fun _ g31 L31 f31 => pc_cb (pc_kp (w_fX4_offer_13 _ _ _ _ _ _ FW.refl)) (fun _ g35 L35 f35 => hk _ (((h14.st f27 ⟨rfl, rfl⟩).f f31 (by decide)).f f35 (by decide))))))
theorem rs_lostWithout {p1 p2 : Int32} : Pc (fX10_lostWithout_9 fu p1 p2 g L) (fun _ g1 _ => Rs S0 g g1) := by
  unfold fX10_lostWithout_9
  refine pc_ck (fun a1 a2 => pc_lti (fun x1 ex1 => pc_ck (fun b1 b2 => pc_lti (fun x2 ex2 => pc_ck (fun _ _ => pc_st (fun g3 e3 => pc_ck (fun _ _ => pc_st (fun g4 e4 => pc_cb (pc_kp (w_fX1_lostFrom_8 _ _ _ _ _ FW.refl)) (fun _ g6 L6 f6 => pc_ck (fun _ _ => pc_st (fun g9 e9 => pc_ck (fun _ _ => pc_st (fun g10 e10 => pc_some ?_)))))))))))))
  generalize p1.toNatClampNeg = i at *
  generalize p2.toNatClampNeg = j at *
  have r4 : Rs (fun a b => a = 25 ∧ (b = i ∨ b = j)) g g4 := (Rs.refl.st e3 ⟨rfl, Or.inl rfl⟩).st e4 ⟨rfl, Or.inr rfl⟩
  have r9 := (r4.f f6 (by decide)).bk e9 ex1
  refine (r9.bk e10 ex2).mo (fun a b h => ?_)
  obtain ⟨⟨⟨h1, h2⟩, h3⟩, h4⟩ := h
  rcases h2 with h2 | h2
  · exact h3 ⟨h1, h2⟩
  · exact h4 ⟨h1, h2⟩
theorem rs_withoutOne : Pc (fX10_withoutOne_9 fu g L) (fun _ g1 _ => Rs S0 g g1) := by
  unfold fX10_withoutOne_9 fX10_withoutOne_9_l9
  refine pc_cb (pc_kp (w_fX4_clear_13 _ _ _ _ FW.refl)) (fun _ g6 L6 f6 => ?_)
  refine pc_loop (fun v => Rs S0 g v.2.1) (fun k hk v hv => ?_) (Rs.refl.f f6 (by decide))
  obtain ⟨v1, g', L'⟩ := v
  replace hv : Rs S0 g g' := hv
  show Pc (fX10_withoutOne_9_s9 fu k v1 g' L') _
  unfold fX10_withoutOne_9_s9
  refine pc_cb (pc_kp (w_fX10_lessonCount_9 _ _ _ _ FW.refl)) (fun _ ga La fa => ?_)
  have ha := hv.f fa (by decide)
  refine pc_ite (fun _ => pc_cb (pc_kp (w_fX4_told_13 _ _ _ _ _ FW.refl)) (fun _ gt Lt ft => pc_some (ha.f ft (by decide)))) (fun _ => pc_cb rs_lostWithout (fun _ gb Lb fb => pc_cb (pc_kp (w_fX4_offer_13 _ _ _ _ _ _ FW.refl)) (fun _ gd Ld fd => hk _ ((ha.tr fb).f fd (by decide)))))
theorem rs_withoutTwo {p1 : Int32} : Pc (fX10_withoutTwo_9 fu p1 g L) (fun _ g1 _ => Rs S0 g g1) := by
  unfold fX10_withoutTwo_9 fX10_withoutTwo_9_l9
  refine pc_cb (pc_kp (w_fX4_clear_13 _ _ _ _ FW.refl)) (fun _ g6 L6 f6 => ?_)
  refine pc_loop (fun v => Rs S0 g v.2.1) (fun k hk v hv => ?_) (Rs.refl.f f6 (by decide))
  obtain ⟨v2, g', L'⟩ := v
  replace hv : Rs S0 g g' := hv
  show Pc (fX10_withoutTwo_9_s9 fu p1 k v2 g' L') _
  unfold fX10_withoutTwo_9_s9
  refine pc_cb (pc_kp (w_fX10_lessonCount_9 _ _ _ _ FW.refl)) (fun _ ga La fa => ?_)
  have ha := hv.f fa (by decide)
  refine pc_ite (fun _ => pc_cb (pc_kp (w_fX4_told_13 _ _ _ _ _ FW.refl)) (fun _ gt Lt ft => pc_some (ha.f ft (by decide)))) (fun _ => pc_lti (fun x14 _ => ?_))
  unfold fX10_withoutTwo_9_l21
  refine pc_loop (fun v => Rs S0 g v.2.1) (fun k21 hk21 v hv => ?_) ha
  obtain ⟨v3, g'', L''⟩ := v
  replace hv : Rs S0 g g'' := hv
  show Pc (fX10_withoutTwo_9_s21 fu k p1 v2 k21 v3 g'' L'') _
  unfold fX10_withoutTwo_9_s21
  refine pc_cb (pc_kp (w_fX10_lessonCount_9 _ _ _ _ FW.refl)) (fun _ gc Lc fc => ?_)
  have hc := hv.f fc (by decide)
  exact pc_ite (fun _ => hk _ hc) (fun _ => pc_cb rs_lostWithout (fun _ gb Lb fb => pc_cb (pc_kp (w_fX4_offer_13 _ _ _ _ _ _ FW.refl)) (fun _ gd Ld fd => hk21 _ ((hc.tr fb).f fd (by decide)))))
theorem rs_lostByRule {p1 : Int32} : Pc (fX10_lostByRule_9 fu p1 g L) (fun _ g1 _ => Rs S0 g g1) := by
  unfold fX10_lostByRule_9
  refine pc_lti (fun x1 ex1 => pc_st (fun g2 e2 => pc_cb (pc_kp (w_fX1_lostFrom_8 _ _ _ _ _ FW.refl)) (fun _ g4 L4 f4 => pc_st (fun g7 e7 => pc_some ?_))))
  exact ((Rs.refl.st e2 ⟨rfl, rfl⟩).f f4 (by decide)).b1 e7 ex1
theorem rs_bestRule : Pc (fX10_bestRule_9 fu g L) (fun _ g1 _ => Rs S0 g g1) := by
  unfold fX10_bestRule_9 fX10_bestRule_9_l9
  refine pc_cb (pc_kp (w_fX4_clear_13 _ _ _ _ FW.refl)) (fun _ g6 L6 f6 => ?_)
  refine pc_loop (fun v => Rs S0 g v.2.1) (fun k hk v hv => ?_) (Rs.refl.f f6 (by decide))
  obtain ⟨v1, g', L'⟩ := v
  replace hv : Rs S0 g g' := hv
  show Pc (fX10_bestRule_9_s9 fu k v1 g' L') _
  unfold fX10_bestRule_9_s9
  refine pc_ite (fun _ => pc_cb (pc_kp (w_fX4_told_13 _ _ _ _ _ FW.refl)) (fun _ gt Lt ft => pc_some (hv.f ft (by decide)))) (fun _ => pc_cb rs_lostByRule (fun _ gb Lb fb => pc_cb (pc_kp (w_fX4_offer_13 _ _ _ _ _ _ FW.refl)) (fun _ gd Ld fd => hk _ ((hv.tr fb).f fd (by decide)))))
theorem cpy_at {f h : Nat → Int32} {j : Nat} : va_cpy f h (Int32.toNatClampNeg 0) (Int32.toNatClampNeg 0) (Int32.toNatClampNeg 12) j = if j < 12 then f j else h j := by
  have e0 : Int32.toNatClampNeg 0 = 0 := rfl
  have e12 : Int32.toNatClampNeg 12 = 12 := rfl
  rw [e0, e12]
  unfold va_cpy
  by_cases hj : j < 12
  · rw [if_pos ⟨Nat.zero_le _, by omega⟩, if_pos hj]
    congr 1; omega
  · rw [if_neg (fun h => hj (by omega)), if_neg hj]
theorem rs_bell {p1 : Int32} : Pc (fX10_worthOfBell_9 fu p1 g L) (fun _ g1 _ => Rs S0 g g1) := by
  unfold fX10_worthOfBell_9 fX10_worthOfBell_9_l29
  refine pc_cb (pc_kp (w_fX1_lostFrom_8 _ _ _ _ _ FW.refl)) (fun x1 g2 L2 f2 => pc_stA (fun g5 e5 => ?_))
  have h2 : Rs S0 g g2 := Rs.refl.f f2 (by decide)
  have h5 : Rs S0 g g5 := fun a b hc hn => by
    rw [e5, updA_ne (by rcases hc with ⟨x, y, -⟩ | ⟨x, -⟩ | ⟨x, y⟩ | ⟨x, -⟩ <;> omega)]; exact h2 a b hc hn
  have s5 : ∀ j, j < 12 → g5 49 j = g 25 j := fun j hj => by
    rw [e5, updA_at, cpy_at, if_pos hj]; exact h2 25 j (Or.inl ⟨by decide, by decide, hj⟩) id
  refine pc_loop (fun v => Rs (fun a _ => a = 25) g v.2.1 ∧ ∀ j, j < 12 → v.2.1 49 j = g 25 j) (fun k hk v hv => ?_) ⟨h5.m0, s5⟩
  obtain ⟨v3, g', L'⟩ := v
  obtain ⟨hv, hs⟩ := hv
  replace hv : Rs (fun a _ => a = 25) g g' := hv
  replace hs : ∀ j, j < 12 → g' 49 j = g 25 j := hs
  show Pc (fX10_worthOfBell_9_s29 fu p1 x1 k v3 g' L') _
  unfold fX10_worthOfBell_9_s29
  refine pc_cb (pc_kp (w_fX10_lessonCount_9 _ _ _ _ FW.refl)) (fun _ ga La fa => ?_)
  have ha := hv.f fa (by decide)
  have sa : ∀ j, j < 12 → ga 49 j = g 25 j := fun j hj => by rw [fa.c (k := 49) (by decide) (by decide)]; exact hs j hj
  refine pc_ite (fun _ => pc_cb (pc_kp (w_fX1_lostFrom_8 _ _ _ _ _ FW.refl)) (fun x11 gb Lb fb => pc_stA (fun gc ec => pc_some (fun a b hc hn => ?_)))) (fun _ => pc_ck (fun _ _ => pc_ck (fun _ _ => pc_st (fun gb eb => hk _ ⟨ha.st eb rfl, fun j hj => ?_⟩))))
  · have hb := ha.f fb (by decide)
    have sb : ∀ j, j < 12 → gb 49 j = g 25 j := fun j hj => by rw [fb.c (k := 49) (by decide) (by decide)]; exact sa j hj
    rw [ec]
    by_cases h25 : a = 25
    · subst h25
      have hb12 : b < 12 := by
        rcases hc with ⟨-, -, h⟩ | ⟨h, -⟩ | ⟨h, -⟩ | ⟨h, -⟩
        · exact h
        · exact absurd h (by decide)
        · exact absurd h (by decide)
        · exact absurd h (by decide)
      rw [updA_at, cpy_at, if_pos hb12]; exact sb b hb12
    · rw [updA_ne h25]; exact hb a b hc h25
  · show gb 49 j = g 25 j
    rw [eb, upd2_nk (by decide)]; exact sa j hj
theorem rs_fits : Pc (fX10_findBeginners_9 fu g L) (fun _ g1 _ => Rs S0 g g1) := by
  unfold fX10_findBeginners_9 fX10_findBeginners_9_l17
  have nc4 : ∀ j, ¬ cY 9 j := fun j h => by rcases h with ⟨h, -⟩ | ⟨h, -⟩ | ⟨h, -⟩ | ⟨h, -⟩ <;> omega
  refine pc_st (fun g1 e1 => pc_st (fun g2 e2 => pc_st (fun g3 e3 => ?_)))
  refine pc_loop (fun v => Rs S0 g v.2.1) (fun k hk v hv => ?_) (((Rs.refl.so e1 (nc4 _)).so e2 (nc4 _)).so e3 (nc4 _))
  obtain ⟨v1, g', L'⟩ := v
  replace hv : Rs S0 g g' := hv
  show Pc (fX10_findBeginners_9_s17 fu k v1 g' L') _
  unfold fX10_findBeginners_9_s17
  refine pc_cb (pc_kp (w_fX10_lessonCount_9 _ _ _ _ FW.refl)) (fun _ ga La fa => ?_)
  have ha := hv.f fa (by decide)
  refine pc_ite (fun _ => pc_some ha) (fun _ => pc_cb (pc_kp (w_fX1_runFrom_8 _ _ _ _ _ FW.refl)) (fun _ gb Lb fb => pc_ck (fun b1 b2 => pc_lti (fun x13 ex => ?_))))
  have hb := ha.f fb (by decide)
  have ex' : x13 = g 25 v1.toNatClampNeg := by rw [ex]; exact hb 25 _ (Or.inl ⟨by decide, by decide, by rw [nc]; omega⟩) id
  unfold fX10_findBeginners_9_l45
  refine pc_loop (fun v => Rs (S1 25 v1.toNatClampNeg) g v.2.1) (fun k45 hk45 v hv => ?_) hb.m0
  obtain ⟨v3, g'', L''⟩ := v
  replace hv : Rs (S1 25 v1.toNatClampNeg) g g'' := hv
  show Pc (fX10_findBeginners_9_s45 fu k v1 x13 k45 v3 g'' L'') _
  unfold fX10_findBeginners_9_s45 fX10_findBeginners_9_p82
  refine pc_ite (fun _ => pc_ck (fun _ _ => pc_st (fun gc ec => hk _ (hv.b1 ec ex')))) (fun _ => pc_ck (fun _ _ => pc_st (fun gc ec => pc_cb (pc_kp (w_fX1_runFrom_8 _ _ _ _ _ FW.refl)) (fun _ gd Ld fd => pc_cb (pc_kp (w_fX10_isAsSeen_9 _ _ _ _ FW.refl)) (fun _ ge Le fe => ?_)))))
  have he := ((hv.st ec ⟨rfl, rfl⟩).f fd (by decide)).f fe (by decide)
  exact pc_ite (fun _ => hk45 _ he) (fun _ => pc_cb (pc_kp (w_fX10_addBeginner_9 _ _ _ _ _ _ FW.refl)) (fun _ gf Lf ff => hk45 _ (he.f ff (by decide))))
theorem rs_shift {p1 p2 : Int32} : Pc (fX10_leastByShift_9 fu p1 p2 g L) (fun _ g1 _ => Rs S0 g g1) := by
  unfold fX10_leastByShift_9 fX10_leastByShift_9_l44
  refine pc_ck (fun _ _ => pc_ltn (fun q eq => pc_lti (fun x2 ex2 => pc_lti (fun x3 ex3 => pc_cb (pc_kp (w_fX1_runFrom_8 _ _ _ _ _ FW.refl)) (fun _ g5 L5 f5 => pc_cb (pc_kp (w_fX4_clear_13 _ _ _ _ FW.refl)) (fun _ g9 L9 f9 => ?_))))))
  refine pc_loop (fun v => Rs (fun a b => a = q ∧ (b = 3 ∨ b = 4)) g v.2.1) (fun k hk v hv => ?_) ((Rs.refl.f f5 (by decide)).f f9 (by decide))
  obtain ⟨v6, g', L'⟩ := v
  replace hv : Rs (fun a b => a = q ∧ (b = 3 ∨ b = 4)) g g' := hv
  show Pc (fX10_leastByShift_9_s44 fu p1 p2 q x2 x3 k v6 g' L') _
  unfold fX10_leastByShift_9_s44 fX10_leastByShift_9_p105
  refine pc_ite (fun _ => pc_st (fun ga ea => pc_st (fun gb eb => pc_cb (pc_kp (w_fX4_told_13 _ _ _ _ _ FW.refl)) (fun _ gt Lt ft => pc_some ?_)))) (fun _ => pc_ite (fun _ => hk _ hv) (fun _ => pc_ite (fun _ => hk _ hv) (fun _ => pc_st (fun ga ea => pc_st (fun gb eb => pc_cb (pc_kp (w_fX1_lostFrom_8 _ _ _ _ _ FW.refl)) (fun _ gc Lc fc => pc_cb (pc_kp (w_fX4_offer_13 _ _ _ _ _ _ FW.refl)) (fun _ gd Ld fd => hk _ ?_)))))))
  · have h1 := ((hv.bk ea ex2).bk eb ex3).mo (S' := S0) (fun a b h => by
      obtain ⟨⟨⟨h1, h2⟩, h3⟩, h4⟩ := h
      rcases h2 with h2 | h2
      · exact h3 ⟨h1, h2⟩
      · exact h4 ⟨h1, h2⟩)
    exact h1.f ft (by decide)
  · exact (((hv.st ea ⟨rfl, Or.inl rfl⟩).st eb ⟨rfl, Or.inr rfl⟩).f fc (by decide)).f fd (by decide)
theorem rs_harm {p1 p2 : Int32} : Pc (fX10_harmDone_9 fu p1 p2 g L) (fun _ g1 _ => Rs S0 g g1) := by
  unfold fX10_harmDone_9
  refine pc_cb (pc_kp (w_fX1_runFrom_8 _ _ _ _ _ FW.refl)) (fun _ g2 L2 f2 => pc_cb (pc_kp (w_fX1_late_8 _ _ _ _ _ FW.refl)) (fun _ g6 L6 f6 => pc_ck (fun a1 a2 => pc_lti (fun x9 ex => pc_ck (fun _ _ => pc_st (fun g10 e10 => pc_cb (pc_kp (w_fX1_runFrom_8 _ _ _ _ _ FW.refl)) (fun _ g12 L12 f12 => pc_ck (fun _ _ => pc_st (fun g15 e15 => pc_cb (pc_kp (w_fX1_late_8 _ _ _ _ _ FW.refl)) (fun _ g17 L17 f17 => pc_some ?_))))))))))
  have h6 : Rs S0 g g6 := (Rs.refl.f f2 (by decide)).f f6 (by decide)
  have ex' : x9 = g 25 p1.toNatClampNeg := by rw [ex]; exact h6 25 _ (Or.inl ⟨by decide, by decide, by rw [nc]; omega⟩) id
  exact ((((h6.m0 (S := S1 25 p1.toNatClampNeg)).st e10 ⟨rfl, rfl⟩).f f12 (by decide)).b1 e15 ex').f f17 (by decide)
theorem rs_addGap {p1 p2 : Int32} : Pc (fX10_addGapFrom_9 fu p1 p2 g L) (fun _ g1 _ => (∀ j, j < 12 → g1 26 j = if (j : Int) < (g 1 2).toInt ∧ ¬ g (57 + j) 3 < p1 then g 26 j + p2 else g 26 j) ∧ (∀ k, k ≠ 26 → g1 k = g k)) := by
  unfold fX10_addGapFrom_9 fX10_addGapFrom_9_l2
  refine pc_loop (fun v => 0 ≤ v.1.toInt ∧ (∀ j : Nat, j < 12 → v.2.1 26 j = if (j : Int) < v.1.toInt ∧ ((j : Int) < (g 1 2).toInt ∧ ¬ g (57 + j) 3 < p1) then g 26 j + p2 else g 26 j) ∧ (∀ k, k ≠ 26 → v.2.1 k = g k)) (fun k hk v hv => ?_) ⟨(show 0 ≤ (0 : Int32).toInt from by decide), fun j _ => (if_neg (fun h => absurd (show (j : Int) < 0 from h.1) (by omega))).symm, fun _ _ => rfl⟩
  obtain ⟨v3, g', L'⟩ := v
  obtain ⟨h0, h1, h2⟩ := hv
  replace h0 : 0 ≤ v3.toInt := h0
  replace h1 : ∀ j : Nat, j < 12 → g' 26 j = if (j : Int) < v3.toInt ∧ ((j : Int) < (g 1 2).toInt ∧ ¬ g (57 + j) 3 < p1) then g 26 j + p2 else g 26 j := h1
  replace h2 : ∀ k, k ≠ 26 → g' k = g k := h2
  show Pc (fX10_addGapFrom_9_s2 fu p1 p2 k v3 g' L') _
  unfold fX10_addGapFrom_9_s2 fX10_addGapFrom_9_p42
  refine pc_cb (P := fun x ga _ => x = g' 1 2 ∧ ga = g') (fun x ga La e => by
    have e : some (g' 1 2, ((g', L') : zS)) = some (x, (ga, La)) := e
    cases e; exact ⟨rfl, rfl⟩) (fun x ga La hh => ?_)
  obtain ⟨rfl, rfl⟩ := hh
  have e12 : ga 1 2 = g 1 2 := by rw [h2 1 (by decide)]
  refine pc_ite (fun c => pc_some ⟨fun j hj => ?_, h2⟩) (fun c => pc_ck (fun c1 c2 => pc_ltn (fun q eq => ?_)))
  · have c := icc_le (m := (ga 1 2).toInt) (n := v3.toInt) rfl rfl c
    rw [e12] at c
    rw [h1 j hj]
    by_cases hn : (j : Int) < (g 1 2).toInt ∧ ¬ g (57 + j) 3 < p1
    · rw [if_pos ⟨by omega, hn⟩, if_pos hn]
    · rw [if_neg (fun h => hn h.2), if_neg hn]
  have c := icc_nle (m := (ga 1 2).toInt) (n := v3.toInt) rfl rfl c
  rw [e12] at c
  have ew : (v3 + 1).toInt = v3.toInt + 1 := ic_addc rfl (by decide) (by omega) (by omega)
  have eN : v3.toNatClampNeg = v3.toInt.toNat := by rw [nc]
  have eq' : q = 57 + v3.toInt.toNat := by rw [eq, eN]; omega
  have eq3 : ga q = g (57 + v3.toInt.toNat) := by rw [eq', h2 _ (by omega)]
  refine pc_ite (fun d => hk _ ⟨(show 0 ≤ (v3 + 1).toInt by omega), fun j hj => ?_, h2⟩) (fun d => pc_ck (fun _ _ => pc_ck (fun _ _ => pc_st (fun gb eb => hk _ ⟨(show 0 ≤ (v3 + 1).toInt by omega), fun j hj => ?_, fun k hk => ?_⟩))))
  · show ga 26 j = _
    rw [h1 j hj]
    rw [eq3] at d
    by_cases hjv : j = v3.toInt.toNat
    · rw [if_neg (fun h => by have := h.1; omega), if_neg (fun h => h.2.2 (by rw [hjv]; exact d))]
    · by_cases hn : (j : Int) < v3.toInt ∧ ((j : Int) < (g 1 2).toInt ∧ ¬ g (57 + j) 3 < p1)
      · rw [if_pos hn, if_pos ⟨by have := hn.1; show (j : Int) < (v3 + 1).toInt; omega, hn.2⟩]
      · rw [if_neg hn, if_neg (fun h => hn ⟨by have h1 : (j : Int) < (v3 + 1).toInt := h.1; omega, h.2⟩)]
  · show gb 26 j = _
    rw [eq3] at d
    rw [eb, eN]
    by_cases hjv : j = v3.toInt.toNat
    · rw [hjv, upd2_at, h1 _ (by omega), if_neg (fun h => by have := h.1; omega), if_pos ⟨by show ((v3.toInt.toNat : Nat) : Int) < (v3 + 1).toInt; omega, by omega, d⟩]
    · rw [upd2_nj hjv, h1 j hj]
      by_cases hn : (j : Int) < v3.toInt ∧ ((j : Int) < (g 1 2).toInt ∧ ¬ g (57 + j) 3 < p1)
      · rw [if_pos hn, if_pos ⟨by have := hn.1; show (j : Int) < (v3 + 1).toInt; omega, hn.2⟩]
      · rw [if_neg hn, if_neg (fun h => hn ⟨by have h1 : (j : Int) < (v3 + 1).toInt := h.1; omega, h.2⟩)]
  · show gb k = g k
    rw [eb, ← h2 k hk]; exact funext fun i => upd2_nk hk
theorem rs_pause {p1 p2 : Int32} : Pc (fX10_leastByPause_9 fu p1 p2 g L) (fun _ g1 _ => Rs S0 g g1) := by
  unfold fX10_leastByPause_9 fX10_leastByPause_9_l9
  refine pc_cb (pc_kp (w_fX4_clear_13 _ _ _ _ FW.refl)) (fun _ g6 L6 f6 => ?_)
  refine pc_loop (fun v => Rs S0 g v.2.1) (fun k hk v hv => ?_) (Rs.refl.f f6 (by decide))
  obtain ⟨v3, g', L'⟩ := v
  replace hv : Rs S0 g g' := hv
  show Pc (fX10_leastByPause_9_s9 fu p1 p2 k v3 g' L') _
  unfold fX10_leastByPause_9_s9
  refine pc_cb (pc_kp (w_fX10_lessonCount_9 _ _ _ _ FW.refl)) (fun _ ga La fa => ?_)
  have ha := hv.f fa (by decide)
  refine pc_ite (fun _ => pc_cb (pc_kp (w_fX4_told_13 _ _ _ _ _ FW.refl)) (fun _ gt Lt ft => pc_some (ha.f ft (by decide)))) (fun _ => pc_ck (fun _ _ => pc_ltn (fun q eq => pc_lti (fun x15 ex => pc_cb rs_addGap (fun _ gb Lb fb => pc_cb (pc_kp (w_fX1_lostFrom_8 _ _ _ _ _ FW.refl)) (fun _ gc Lc fc => pc_cb (pc_kp (w_fX4_offer_13 _ _ _ _ _ _ FW.refl)) (fun _ gd Ld fd => pc_cb rs_addGap (fun _ ge Le fe => hk _ (ha.tr ?_)))))))))
  have hd : Rs S0 gb gd := (Rs.refl.f fc (by decide)).f fd (by decide)
  have e12 : gd 1 2 = ga 1 2 := by rw [fd.c (k := 1) (by decide) (by decide), fc.c (k := 1) (by decide) (by decide), fb.2 1 (by decide)]
  intro a b hc hn
  show ge a b = ga a b
  by_cases h26 : a = 26
  · subst h26
    have hb12 : b < 12 := by
      rcases hc with ⟨-, -, h⟩ | ⟨h, -⟩ | ⟨h, -⟩ | ⟨h, -⟩
      · exact h
      · exact absurd h (by decide)
      · exact absurd h (by decide)
      · exact absurd h (by decide)
    have el : gd (57 + b) 3 = ga (57 + b) 3 := by rw [hd (57 + b) 3 (Or.inr (Or.inr (Or.inl ⟨by omega, by omega⟩))) id, fb.2 (57 + b) (by omega)]
    rw [fe.1 b hb12, e12, el, hd 26 b hc id, fb.1 b hb12]
    by_cases hh : (b : Int) < (ga 1 2).toInt ∧ ¬ ga (57 + b) 3 < x15
    · rw [if_pos hh, if_pos hh, Int32.add_assoc]
      show ga 26 b + (p1 + -p1) = _
      rw [Int32.add_right_neg, Int32.add_zero]
    · rw [if_neg hh, if_neg hh]
  · rw [fe.2 a h26, hd a b hc id, fb.2 a h26]
theorem rs_fewest {p1 p2 p3 : Int32} : Pc (fX2_fewest_10 fu p1 p2 p3 g L) (fun _ g1 _ => Rs S0 g g1) := by
  unfold fX2_fewest_10 fX2_fewest_10_l46
  have nc4 : ∀ j, ¬ cY 10 j := fun j h => by rcases h with ⟨h, -⟩ | ⟨h, -⟩ | ⟨h, -⟩ | ⟨h, -⟩ <;> omega
  refine pc_st (fun g1 e1 => pc_st (fun g2 e2 => pc_st (fun g3 e3 => pc_st (fun g4 e4 => pc_cb (pc_kp (w_fX2_findAsked_10 _ _ _ _ FW.refl)) (fun _ g6 L6 f6 => pc_stA (fun g9 e9 => ?_))))))
  have h6 : Rs S0 g g6 := ((((Rs.refl.so e1 (nc4 _)).so e2 (nc4 _)).so e3 (nc4 _)).so e4 (nc4 _)).f f6 (by decide)
  have h9 : Rs S0 g g9 := fun a b hc hn => by
    rw [e9, updA_ne (by rcases hc with ⟨x, y, -⟩ | ⟨x, -⟩ | ⟨x, y⟩ | ⟨x, -⟩ <;> omega)]; exact h6 a b hc hn
  have s9 : ∀ j, j < 12 → g9 50 j = g 26 j := fun j hj => by
    rw [e9, updA_at, cpy_at, if_pos hj]; exact h6 26 j (Or.inl ⟨by decide, by decide, hj⟩) id
  refine pc_loop (fun v => Rs (fun a _ => a = 26) g v.2.1 ∧ ∀ j, j < 12 → v.2.1 50 j = g 26 j) (fun k hk v hv => ?_) ⟨h9.m0, s9⟩
  obtain ⟨v4, g', L'⟩ := v
  obtain ⟨hv, hs⟩ := hv
  replace hv : Rs (fun a _ => a = 26) g g' := hv
  replace hs : ∀ j, j < 12 → g' 50 j = g 26 j := hs
  show Pc (fX2_fewest_10_s46 fu p1 k v4 g' L') _
  unfold fX2_fewest_10_s46 fX2_fewest_10_p82 fX2_fewest_10_p130
  refine pc_ite (fun _ => pc_cb (pc_kp (wl_fX2_tryFrom_10 _ _ _ _ _ _)) (fun _ gb Lb fb => pc_stA (fun gc ec => ?_))) (fun _ => pc_cb (pc_kp (w_fX2_isIn _ _ _ _ _ _ FW.refl)) (fun _ ga La fa => ?_))
  · have fin : Rs S0 g gc := fun a b hc hn => by
      rw [ec]
      by_cases h26 : a = 26
      · subst h26
        have hb12 : b < 12 := by
          rcases hc with ⟨-, -, h⟩ | ⟨h, -⟩ | ⟨h, -⟩ | ⟨h, -⟩
          · exact h
          · exact absurd h (by decide)
          · exact absurd h (by decide)
          · exact absurd h (by decide)
        rw [updA_at, cpy_at, if_pos hb12, fb.c (k := 50) (by decide) (by decide)]; exact hs b hb12
      · rw [updA_ne h26]
        have hv' := hv a b hc h26
        rw [← hv']
        rcases hc with ⟨x, y, -⟩ | ⟨rfl, rfl⟩ | ⟨x, y⟩ | ⟨rfl, rfl | rfl⟩
        · rcases (by omega : a = 25 ∨ a = 27 ∨ a = 28) with rfl | rfl | rfl
          · rw [fb.c (k := 25) (by decide) (by decide)]
          · rw [fb.c (k := 27) (by decide) (by decide)]
          · rw [fb.c (k := 28) (by decide) (by decide)]
        · exact fb 6 11 (by decide) (by decide)
        · rw [okw_c (fc := [57, 58, 59, 60, 61, 62, 63, 64, 65, 66, 67, 68]) (ff := []) (by decide) fb (by
            have m : ∀ k, k < 69 → 57 ≤ k → k ∈ [57, 58, 59, 60, 61, 62, 63, 64, 65, 66, 67, 68] := by decide
            exact m a (by omega) x)]
        · exact fb 8 8 (by decide) (by decide)
        · exact fb 8 9 (by decide) (by decide)
    exact pc_ite (fun _ => pc_some fin) (fun _ => pc_some fin)
  · have ha := hv.f fa (by decide)
    have sa : ∀ j, j < 12 → ga 50 j = g 26 j := fun j hj => by rw [fa.c (k := 50) (by decide) (by decide)]; exact hs j hj
    have go : ∀ (gb : gT) (i : Nat) (x : Int32), gb = upd2 ga 26 i x → (∀ j, j < 12 → gb 50 j = g 26 j) ∧ Rs (fun a _ => a = 26) g gb := fun gb i x eb => ⟨fun j hj => by rw [eb, upd2_nk (by decide)]; exact sa j hj, ha.st eb rfl⟩
    exact pc_ite (fun _ => pc_ck (fun _ _ => pc_ck (fun _ _ => pc_st (fun gb eb => hk _ ⟨(go gb _ _ eb).2, (go gb _ _ eb).1⟩)))) (fun _ => pc_ck (fun _ _ => pc_st (fun gb eb => hk _ ⟨(go gb _ _ eb).2, (go gb _ _ eb).1⟩)))
theorem rs_runWith {p1 p2 : Int32} (h8 : g 8 8 = -1) : Pc (fX0_runWith_11 fu p1 p2 g L) (fun _ g1 _ => Rs S0 g g1) := by
  unfold fX0_runWith_11 fX0_runWith_11_l10
  refine pc_lti (fun x1 _ => ?_)
  refine pc_loop (fun v => v.2.2.1 = g) (fun k hk v hv => ?_) rfl
  obtain ⟨v3, v4, g', L'⟩ := v
  replace hv : g' = g := hv
  subst hv
  show Pc (fX0_runWith_11_s10 fu p1 p2 k v3 v4 g' L') _
  unfold fX0_runWith_11_s10 fX0_runWith_11_p42
  refine pc_ite (fun _ => pc_st (fun g3 e3 => ?_)) (fun _ => pc_ite (fun _ => pc_ck (fun _ _ => pc_lti (fun x11 _ => hk _ rfl))) (fun _ => hk _ rfl))
  unfold fX0_runWith_11_l59
  refine pc_loop (fun v => Rs (S1 8 8) g' v.2.1) (fun k59 hk59 v hv => ?_) (Rs.refl.st e3 ⟨rfl, rfl⟩)
  obtain ⟨v5, g'', L''⟩ := v
  replace hv : Rs (S1 8 8) g' g'' := hv
  show Pc (fX0_runWith_11_s59 fu p2 k59 v5 g'' L'') _
  unfold fX0_runWith_11_s59
  exact pc_ite (fun _ => pc_st (fun g5 e5 => pc_some (hv.b1 e5 h8.symm))) (fun _ => pc_cb (pc_kp (w_fX1_runOne_8 _ _ _ _ _ FW.refl)) (fun _ g7 L7 f7 => hk59 _ (hv.f f7 (by decide))))
theorem rs_ofLate {p1 p2 : Int32} (h8 : g 8 8 = -1) : Pc (fX0_ofLate_11 fu p1 p2 g L) (fun _ g1 _ => Rs S0 g g1) := by
  unfold fX0_ofLate_11 fX0_ofLate_11_l12
  refine pc_cb (pc_kp (w_fX0_findUnsure_11 _ _ _ _ _ FW.refl)) (fun _ g2 L2 f2 => pc_stl (fun L5 => ?_))
  refine pc_loop (fun v => Rs S0 g v.2.1) (fun k hk v hv => ?_) (Rs.refl.f f2 (by decide))
  obtain ⟨v3, g', L'⟩ := v
  replace hv : Rs S0 g g' := hv
  have h8' : g' 8 8 = -1 := (hv 8 8 (Or.inr (Or.inr (Or.inr ⟨rfl, Or.inl rfl⟩))) id).trans h8
  show Pc (fX0_ofLate_11_s12 fu p1 p2 k v3 g' L') _
  unfold fX0_ofLate_11_s12 fX0_ofLate_11_p54
  refine pc_ite (fun _ => pc_cb (pc_kp (w_fX0_reduce_11 _ _ _ _ FW.refl)) (fun _ ga La fa => pc_some (hv.f fa (by decide)))) (fun _ => pc_cb (rs_runWith h8') (fun _ ga La fa => pc_cb (pc_kp (w_fX1_late_8 _ _ _ _ _ FW.refl)) (fun _ gb Lb fb => ?_)))
  have hb := (hv.tr fa).f fb (by decide)
  exact pc_ite (fun _ => hk _ hb) (fun _ => pc_cb (pc_kp (w_fX0_weight_11 _ _ _ _ _ FW.refl)) (fun _ gc Lc fc => pc_stl (fun Ld => hk _ (hb.f fc (by decide)))))
theorem rs_meanLate {p1 : Int32} (h8 : g 8 8 = -1) : Pc (fX0_meanLate_11 fu p1 g L) (fun _ g1 _ => Rs S0 g g1) := by
  unfold fX0_meanLate_11 fX0_meanLate_11_l12
  refine pc_cb (pc_kp (w_fX0_findUnsure_11 _ _ _ _ _ FW.refl)) (fun _ g2 L2 f2 => pc_stl (fun L5 => ?_))
  refine pc_loop (fun v => Rs S0 g v.2.1) (fun k hk v hv => ?_) (Rs.refl.f f2 (by decide))
  obtain ⟨v3, g', L'⟩ := v
  replace hv : Rs S0 g g' := hv
  have h8' : g' 8 8 = -1 := (hv 8 8 (Or.inr (Or.inr (Or.inr ⟨rfl, Or.inl rfl⟩))) id).trans h8
  show Pc (fX0_meanLate_11_s12 fu p1 k v3 g' L') _
  unfold fX0_meanLate_11_s12
  refine pc_ite (fun _ => pc_cb (pc_kp (w_fX0_reduce_11 _ _ _ _ FW.refl)) (fun _ ga La fa => pc_some (hv.f fa (by decide)))) (fun _ => pc_cb (rs_runWith h8') (fun _ ga La fa => pc_cb (pc_kp (w_fX0_weight_11 _ _ _ _ _ FW.refl)) (fun _ gc Lc fc => pc_cb (pc_kp (w_fX1_late_8 _ _ _ _ _ FW.refl)) (fun _ gb Lb fb => pc_stl (fun Ld => hk _ (((hv.tr fa).f fc (by decide)).f fb (by decide)))))))
theorem rs_ofTerm {p1 p2 p3 p4 : Int32} (h8 : g 8 8 = -1) : Pc (fX0_ofTerm_11 fu p1 p2 p3 p4 g L) (fun _ g1 _ => Rs S0 g g1) := by
  unfold fX0_ofTerm_11 fX0_ofTerm_11_l17
  have nc4 : ∀ j, ¬ cY 11 j := fun j h => by rcases h with ⟨h, -⟩ | ⟨h, -⟩ | ⟨h, -⟩ | ⟨h, -⟩ <;> omega
  refine pc_st (fun g1 e1 => ?_)
  refine pc_loop (fun v => Rs (S1 8 8) g v.2.2.2.2.1) (fun k hk v hv => ?_) ((Rs.refl.so e1 (nc4 _)).m0)
  obtain ⟨v5, v6, v7, v8, g', L'⟩ := v
  replace hv : Rs (S1 8 8) g g' := hv
  show Pc (fX0_ofTerm_11_s17 fu p2 p3 p4 k v5 v6 v7 v8 g' L') _
  unfold fX0_ofTerm_11_s17 fX0_ofTerm_11_p116 fX0_ofTerm_11_p78
  refine pc_ite (fun _ => pc_st (fun g3 e3 => ?_)) (fun _ => pc_cb (pc_kp (w_fX0_drawRunning_11 _ _ _ _ FW.refl)) (fun _ ga La fa => pc_st (fun gb eb => pc_cb (pc_kp (w_fX1_lostFrom_8 _ _ _ _ _ FW.refl)) (fun _ gc Lc fc => pc_lti (fun x15 _ => pc_lti (fun x16 _ => pc_cb (pc_kp (w_fX1_late_8 _ _ _ _ _ FW.refl)) (fun _ gd Ld fd => ?_)))))))
  · have h3 := hv.b1 e3 h8.symm
    exact pc_ite (fun _ => pc_some h3) (fun _ => pc_ite (fun _ => pc_some h3) (fun _ => pc_some h3))
  · have hd := ((((hv.f fa (by decide)).st eb ⟨rfl, rfl⟩).f fc (by decide)).f fd (by decide))
    exact pc_ite (fun _ => pc_lti (fun _ _ => hk _ hd)) (fun _ => pc_lti (fun _ _ => hk _ hd))
end RX
