/-! ===== the first of the least: best, last ===== -/
def AM (P : Int → Int32 → Prop) (lo hi c : Int) : Prop := lo ≤ c ∧ c < hi ∧ ∀ v, P c v → ∀ r w, lo ≤ r → r < hi → P r w → v.toInt ≤ w.toInt ∧ (r < c → v.toInt < w.toInt)
theorem AM.u {P : Int → Int32 → Prop} {lo hi c c' : Int} (ex : ∀ r, lo ≤ r → r < hi → ∃ w, P r w) (h : AM P lo hi c) (h' : AM P lo hi c') : c = c' := by
  obtain ⟨a1, a2, a3⟩ := h
  obtain ⟨b1, b2, b3⟩ := h'
  obtain ⟨v, hv⟩ := ex c a1 a2
  obtain ⟨w, hw⟩ := ex c' b1 b2
  have x := a3 v hv c' w b1 b2 hw
  have y := b3 w hw c v a1 a2 hv
  rcases (by omega : c < c' ∨ c = c' ∨ c' < c) with e | e | e
  · have := y.2 e; omega
  · exact e
  · have := x.2 e; omega
/-- what is offered next loses more, or as much -/
theorem AM.keep {P : Int → Int32 → Prop} {lo m c : Int} {v w : Int32} (fP : ∀ r v v', P r v → P r v' → v = v') (h : AM P lo m c) (hv : P c v) (hw : P m w) (hle : v.toInt ≤ w.toInt) : AM P lo (m + 1) c := by
  obtain ⟨a1, a2, a3⟩ := h
  refine ⟨a1, by omega, fun v' hv' r w' h1 h2 hr => ?_⟩
  obtain rfl := fP c v v' hv hv'
  rcases (by omega : r < m ∨ r = m) with e | e
  · exact a3 v hv r w' h1 e hr
  · subst e
    obtain rfl := fP r w w' hw hr
    exact ⟨hle, fun h => by omega⟩
/-- what is offered next loses less -/
theorem AM.new {P : Int → Int32 → Prop} {lo m c : Int} {v w : Int32} (fP : ∀ r v v', P r v → P r v' → v = v') (h : AM P lo m c) (hv : P c v) (hw : P m w) (hlt : w.toInt < v.toInt) : AM P lo (m + 1) m := by
  obtain ⟨a1, a2, a3⟩ := h
  refine ⟨by omega, by omega, fun v' hv' r w' h1 h2 hr => ?_⟩
  obtain rfl := fP m w v' hw hv'
  rcases (by omega : r < m ∨ r = m) with e | e
  · have := a3 v hv r w' h1 e hr
    exact ⟨by omega, fun _ => by omega⟩
  · subst e
    obtain rfl := fP r w w' hw hr
    exact ⟨Int.le_refl _, fun h => by omega⟩
theorem AM.one {P : Int → Int32 → Prop} {m : Int} (fP : ∀ r v v', P r v → P r v' → v = v') : AM P m (m + 1) m := by
  refine ⟨Int.le_refl _, by omega, fun v hv r w h1 h2 hr => ?_⟩
  have e : r = m := by omega
  subst e
  obtain rfl := fP r v w hv hr
  exact ⟨Int.le_refl _, fun h => by omega⟩
/-- what the class keeps of what was offered -/
def LK (P : Int → Int32 → Prop) (lo m : Int) (g : gT) : Prop := (m = lo ∧ g 13 0 = 0) ∨ (lo < m ∧ ¬ g 13 0 = 0 ∧ P (g 13 1).toInt (g 13 2) ∧ AM P lo m (g 13 1).toInt)
theorem clear_x {fu : Nat} {g : gT} {L : lT} : Pc (fX4_clear_13 fu g L) (fun _ g1 _ => g1 13 0 = 0 ∧ ∀ k, k ≠ 13 → g1 k = g k) := by
  unfold fX4_clear_13
  exact pc_st (fun g1 e => pc_some ⟨by rw [e, upd2_at], fun k hk => by rw [e]; exact funext fun _ => upd2_nk hk⟩)
theorem offer_x {P : Int → Int32 → Prop} {fu : Nat} {lo m : Int} {p1 p2 : Int32} {g : gT} {L : lT} (fP : ∀ r v v', P r v → P r v' → v = v') (hm : p1.toInt = m) (h : LK P lo m g) (hw : P m p2) : Pc (fX4_offer_13 fu p1 p2 g L) (fun _ g1 _ => LK P lo (m + 1) g1 ∧ ∀ k, k ≠ 13 → g1 k = g k) := by
  unfold fX4_offer_13 fX4_offer_13_p31 fX4_offer_13_p46
  have take : AM P lo (m + 1) m → Pc (sti g 13 0 1 (fun g1 => sti g1 13 1 p1 (fun g2 => sti g2 13 2 p2 (fun g3 => some ((), ((g3, L) : zS)))))) (fun _ g1 _ => LK P lo (m + 1) g1 ∧ ∀ k, k ≠ 13 → g1 k = g k) := by
    intro ha
    refine pc_st (fun g1 e1 => pc_st (fun g2 e2 => pc_st (fun g3 e3 => pc_some ⟨Or.inr ?_, fun k hk => ?_⟩)))
    · have z0 : g3 13 0 = 1 := by rw [e3, upd2_nj (by decide), e2, upd2_nj (by decide), e1, upd2_at]
      have z1 : g3 13 1 = p1 := by rw [e3, upd2_nj (by decide), e2, upd2_at]
      have z2 : g3 13 2 = p2 := by rw [e3, upd2_at]
      rw [z0, z1, z2, hm]
      exact ⟨by have := ha.1; omega, by decide, hw, ha⟩
    · rw [e3, e2, e1]
      exact funext fun _ => by rw [upd2_nk hk, upd2_nk hk, upd2_nk hk]
  have stay : AM P lo (m + 1) (g 13 1).toInt → lo < m → ¬ g 13 0 = 0 → P (g 13 1).toInt (g 13 2) → Pc (some ((), ((g, L) : zS))) (fun _ g1 _ => LK P lo (m + 1) g1 ∧ ∀ k, k ≠ 13 → g1 k = g k) := fun ha h1 h2 h3 => pc_some ⟨Or.inr ⟨by omega, h2, h3, ha⟩, fun _ _ => rfl⟩
  rcases h with ⟨h1, h2⟩ | ⟨h1, h2, h3, h4⟩
  · rw [if_pos h2]
    refine take ?_
    rw [h1]; exact AM.one fP
  · rw [if_neg h2]
    refine pc_ite (fun c => take (h4.new fP h3 hw (ic_lt.mp c))) (fun c => pc_ite (fun c1 => pc_ite (fun _ => stay (h4.keep fP h3 hw (by rw [c1]; exact Int.le_refl _)) h1 h2 h3) (fun c2 => ?_)) (fun c1 => stay (h4.keep fP h3 hw ?_) h1 h2 h3))
    · exfalso
      have c2 := icc_nle (m := (g 13 1).toInt) rfl hm c2
      have := h4.2.1
      omega
    · exact icc_nlt (m := p2.toInt) (n := (g 13 2).toInt) rfl rfl c
theorem DC.c2 {cs : Nat → List Int} {n : Nat} {g g' d : gT} (h : DC cs n g d) (e : ∀ k, k ≠ 13 → k ≠ 21 → (k < 43 ∨ 48 < k) → g' k = g k) : DC cs n g' d := by
  obtain ⟨⟨a1, a2⟩, a3, a4, a5, a6, a7, a8, a9, a10⟩ := h
  unfold DC
  rw [e 1 (by decide) (by decide) (by omega), e 6 (by decide) (by decide) (by omega), e 3 (by decide) (by decide) (by omega), e 20 (by decide) (by decide) (by omega), e 19 (by decide) (by decide) (by omega), e 8 (by decide) (by decide) (by omega)]
  refine ⟨⟨a1, a2⟩, fun i hi => ⟨(a3 i hi).1.c (e _ (by omega) (by omega) (by omega)) (e _ (by omega) (by omega) (by omega)) (fun _ _ _ => rfl), (a3 i hi).2.c (e _ (by decide) (by decide) (by omega)) (e _ (by decide) (by decide) (by omega)) (e _ (by decide) (by decide) (by omega)) (e _ (by decide) (by decide) (by omega)) rfl⟩, a4, a5, a6, a7, a8, a9, a10⟩
/-- the data alone -/
def Td (d : gT) : gT := fun k => if k < 29 then d k else fun _ => 0
theorem Td_k {d : gT} {k : Nat} (h : k < 29) : Td d k = d k := if_pos h
theorem Td_e {d g : gT} (h : Em d g) : Td g = Td d := by
  funext k
  by_cases hk : k < 29
  · rw [Td_k hk, Td_k hk, h k (Or.inl hk)]
  · unfold Td; rw [if_neg hk, if_neg hk]
theorem DY_T {cs : Nat → List Int} {d : gT} {n : Nat} {bg en ru by_ : Nat → Int32} : DY cs (Td d) n bg en ru by_ = DY cs d n bg en ru by_ := rfl
theorem fLost_T {d : gT} {en : Nat → Int32} : fLost (Td d) en = fLost d en := rfl
theorem LV.e {cs : Nat → List Int} {n : Nat} {d g : gT} {v : Int32} (h : Em d g) (hv : LV cs n g v) : LV cs n d v := by
  obtain ⟨bg, en, ru, by_, h1, h2⟩ := hv
  rw [← DY_T, Td_e h, DY_T] at h1
  rw [← fLost_T, Td_e h, fLost_T] at h2
  exact ⟨bg, en, ru, by_, h1, h2⟩
theorem MD.e {cs : Nat → List Int} {n : Nat} {d g : gT} (h : MD cs n d) (e : Em d g) : MD cs n g := by
  unfold MD WF
  rw [e 0 (by omega), e 5 (by omega), e 6 (by omega), e 8 (by omega), e 9 (by omega), e 10 (by omega), e 11 (by omega)]
  exact h
theorem MR.e {cs : Nat → List Int} {d g : gT} (h : MR cs d) (e : Em d g) : MR cs g := by
  unfold MR
  rw [e 0 (by omega), e 10 (by omega), e 11 (by omega)]
  exact h
theorem Em.rule {d g : gT} {r : Int32} (e : Em d g) : Em (upd2 d 0 52 r) (upd2 g 0 52 r) := by
  intro k hk
  by_cases h0 : k = 0
  · subst h0; rw [upd2_k, upd2_k, e 0 (by omega)]
  · funext j; rw [upd2_nk h0, upd2_nk h0, e k hk]
def PRl (cs : Nat → List Int) (n : Nat) (d : gT) (r : Int) (v : Int32) : Prop := LV cs n (upd2 d 0 52 (Int32.ofInt r)) v
theorem PRl.f {cs : Nat → List Int} {n : Nat} {d : gT} (hW : WF n d) : ∀ r v v', PRl cs n d r v → PRl cs n d r v' → v = v' := fun r v v' h h' => LV.u (wf_e hW (funext fun _ => upd2_nk (by decide)) (funext fun _ => upd2_nk (by decide)) (funext fun _ => upd2_nk (by decide)) (funext fun _ => upd2_nk (by decide))) h h'
theorem pr_of {cs : Nat → List Int} {n : Nat} {d : gT} {r v : Int32} {m : Int} (hm : r.toInt = m) (h : LV cs n (upd2 d 0 52 r) v) : PRl cs n d m v := by
  unfold PRl; rw [← hm, io_i]; exact h
theorem rng {r : Int32} {R : Int} (h1 : -1 ≤ r.toInt) (h2 : r.toInt < R) : r = -1 ∨ (0 ≤ r.toInt ∧ r.toInt < R) := by
  by_cases c : r.toInt = -1
  · exact Or.inl (ic_eq.mpr c)
  · exact Or.inr (by omega)
theorem best_x {cs : Nat → List Int} {n fu : Nat} {g d : gT} {L : lT} (h : DC cs n g d) (h0 : 0 ≤ (g 3 3).toInt) (h4 : (g 3 3).toInt ≤ 4) : Pc (fX10_bestRule_9 fu g L) (fun x _ _ => AM (PRl cs n d) (-1) (g 3 3).toInt x.toInt ∧ ∀ r, -1 ≤ r → r < (g 3 3).toInt → ∃ w, PRl cs n d r w) := by
  unfold fX10_bestRule_9
  refine pc_cb clear_x (fun x1 g2 L3 e2 => ?_)
  unfold fX10_bestRule_9_l9
  have hW := h.2.2.2.1
  refine pc_loop (fun v => ∃ m : Int, v.1.toInt = m ∧ -1 ≤ m ∧ m ≤ (g 3 3).toInt ∧ (∀ k, k ≠ 13 → k ≠ 21 → (k < 43 ∨ 48 < k) → v.2.1 k = g k) ∧ LK (PRl cs n d) (-1) m v.2.1 ∧ ∀ r, -1 ≤ r → r < m → ∃ w, PRl cs n d r w) (fun k9 hk v hv => ?_) ⟨-1, rfl, Int.le_refl _, by omega, fun k a _ _ => e2.2 k a, Or.inl ⟨rfl, e2.1⟩, fun r a b => by omega⟩
  obtain ⟨v1, g', L'⟩ := v
  obtain ⟨m, hm, m1, m2, ek, hl, ex⟩ := hv
  replace hm : v1.toInt = m := hm
  replace ek : ∀ k, k ≠ 13 → k ≠ 21 → (k < 43 ∨ 48 < k) → g' k = g k := ek
  replace hl : LK (PRl cs n d) (-1) m g' := hl
  show Pc (fX10_bestRule_9_s9 fu k9 v1 g' L') _
  unfold fX10_bestRule_9_s9
  rw [ek 3 (by decide) (by decide) (by omega)]
  refine pc_ite (fun c => ?_) (fun c => ?_)
  · have c := icc_le (m := (g 3 3).toInt) rfl hm c
    have em : m = (g 3 3).toInt := by omega
    rw [em] at hl ex
    rcases hl with ⟨l1, -⟩ | ⟨-, l2, -, l4⟩
    · omega
    · unfold fX4_told_13 fX4_told_13_p24
      rw [if_neg l2, if_pos rfl, cbs]
      exact pc_some ⟨l4, ex⟩
  · have c := icc_nle (m := (g 3 3).toInt) rfl hm c
    have h33 : g' 3 3 = g 3 3 := by rw [ek 3 (by decide) (by decide) (by omega)]
    refine pc_cb (lr_x (h.c2 ek) (by rw [h33]; exact rng (by omega) (by omega))) (fun x10 g11 L12 e10 => ?_)
    have pm : PRl cs n d m x10 := pr_of hm e10.1
    have hl' : LK (PRl cs n d) (-1) m g11 := by
      unfold LK; rw [e10.2 13 (by decide) (by omega)]; exact hl
    refine pc_cb (offer_x (PRl.f hW) hm hl' pm) (fun x14 g15 L16 e15 => hk _ ⟨m + 1, ?_, by omega, by omega, fun k a b c => ?_, e15.1, fun r a b => ?_⟩)
    · show (v1 + 1).toInt = _
      rw [ic_addc hm (n := 1) rfl (by omega) (by omega)]
    · show g15 k = g k
      rw [e15.2 k a, e10.2 k b c, ek k a b c]
    · rcases (by omega : r < m ∨ r = m) with e | e
      · exact ex r a e
      · exact ⟨x10, by rw [e]; exact pm⟩
theorem best_m {cs : Nat → List Int} {n fu : Nat} {d : gT} {L : lT} (hM : MD cs n d) (hR : MR cs d) (h0 : 0 ≤ (d 0 2).toInt) (h4 : (d 0 2).toInt ≤ 4) : Pc (fX12_best_l9 fu (-1) 0 d L) (fun x g1 _ => Em d g1 ∧ AM (PRl cs n d) (-1) (d 0 2).toInt x.toInt) := by
  unfold fX12_best_l9
  have hW := hM.2.1
  refine pc_loop (fun v => ∃ m : Int, v.2.1.toInt = m ∧ 0 ≤ m ∧ m ≤ (d 0 2).toInt ∧ Em d v.2.2.1 ∧ AM (PRl cs n d) (-1) m v.1.toInt) (fun k9 hk v hv => ?_) ⟨0, rfl, by omega, h0, fun _ _ => rfl, AM.one (m := -1) (PRl.f hW)⟩
  obtain ⟨v1, v2, g', L'⟩ := v
  obtain ⟨m, hm, m1, m2, e, ha⟩ := hv
  replace hm : v2.toInt = m := hm
  replace e : Em d g' := e
  replace ha : AM (PRl cs n d) (-1) m v1.toInt := ha
  show Pc (fX12_best_s9 fu k9 v1 v2 g' L') _
  unfold fX12_best_s9 fX12_best_p32
  have e02 : (g' 0 2).toInt = (d 0 2).toInt := by rw [e 0 (by omega)]
  refine pc_ite (fun c => pc_some ⟨e, ?_⟩) (fun c => ?_)
  · have c := icc_le e02 hm c
    rw [show (d 0 2).toInt = m by omega]; exact ha
  have c := icc_nle e02 hm c
  have ew : (v2 + 1).toInt = m + 1 := ic_addc hm (n := 1) rfl (by omega) (by omega)
  refine pc_cb (lr_m (hM.e e) (hR.e e) (by rw [e02]; exact rng (by omega) (by omega))) (fun x3 g4 L5 e3 => ?_)
  have p3 : PRl cs n d m x3 := pr_of hm (e3.1.e e.rule)
  have e4 : Em d g4 := fun k hk => (e3.2 k hk).trans (e k hk)
  have e42 : (g4 0 2).toInt = (d 0 2).toInt := by rw [e4 0 (by omega)]
  refine pc_cb (lr_m (hM.e e4) (hR.e e4) (by rw [e42]; exact rng ha.1 (by have := ha.2.1; omega))) (fun x7 g8 L9 e7 => ?_)
  have p7 : PRl cs n d v1.toInt x7 := pr_of rfl (e7.1.e e4.rule)
  have e8 : Em d g8 := fun k hk => (e7.2 k hk).trans (e4 k hk)
  refine pc_ite (fun c1 => hk _ ⟨m + 1, ew, by omega, by omega, e8, ha.keep (PRl.f hW) p7 p3 (ic_le.mp c1)⟩) (fun c1 => hk _ ⟨m + 1, ew, by omega, by omega, e8, ?_⟩)
  show AM (PRl cs n d) (-1) (m + 1) v2.toInt
  rw [hm]
  exact ha.new (PRl.f hW) p7 p3 (icc_nle (m := x7.toInt) (n := x3.toInt) rfl rfl c1)
theorem cr_best {fu : Nat} {g gm g1 g2 : gT} {L Lm L1 L2 : lT} {rx rm : Int32} (h : CR g gm) (e1 : fX11_best_0 fu g L = some (rx, (g1, L1))) (e2 : fX12_best fu gm Lm = some (rm, (g2, L2))) : rx = rm := by
  obtain ⟨k1, k2, -⟩ := h.1.1.2.2.2.2.2.2.1
  have q2 := h.1.1.2.1 0 2 0 4 rfl
  have a2 : upd2 gm 0 0 0 0 2 = gm 0 2 := rfl
  obtain ⟨cs, hX, hM, hR⟩ := dc_all h
  unfold fX11_best_0 at e1
  unfold fX12_best sti at e2
  obtain ⟨xa, ga, La, ea, e1⟩ := cb_some e1
  cases e1
  obtain ⟨u1, u2⟩ := best_x (hX.d (e0_u (x := 0))) (by rw [k2]; exact q2.1) (by rw [k2]; exact q2.2) _ _ _ ea
  have v := best_m (hM.d (e0_u (x := 0))) (hR.d (e0_u (x := 0))) q2.1 q2.2 _ _ _ e2
  rw [k2] at u1 u2
  exact ic_eq.mpr (AM.u u2 u1 v.2)
