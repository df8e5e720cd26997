section
/-! ===== what is lost on a day, as a number of the data ===== -/
def LV (cs : Nat → List Int) (n : Nat) (d : gT) (v : Int32) : Prop := ∃ bg en ru by_, DY cs d n bg en ru by_ ∧ v = fo (fLost d en) n
theorem LV.u {cs : Nat → List Int} {n : Nat} {d : gT} {v v' : Int32} (hW : WF n d) (h : LV cs n d v) (h' : LV cs n d v') : v = v' := by
  obtain ⟨b1, e1, r1, y1, h1, rfl⟩ := h
  obtain ⟨b2, e2, r2, y2, h2, rfl⟩ := h'
  have u := DY.u hW h1 h2
  exact fo_c (fun i hi a => by unfold fLost; rw [(u i hi).2.1])
/-- the lessons from the f-th on, then what is lost -/
theorem lf_x {cs : Nat → List Int} {n f fu : Nat} {p1 : Int32} {g d : gT} {L : lT} (h : DC cs n g d) (hf : p1.toInt = (f : Int)) (fn : f ≤ n) : Pc (fX1_lostFrom_8 fu p1 g L) (fun x g1 _ => RF cs d f n g g1 ∧ x = fo (fLost d (g1 44)) n) := by
  unfold fX1_lostFrom_8 fX1_lostFrom_8_l2
  have hn := h.1
  refine pc_loop (fun v => ∃ m : Nat, v.1.toInt = (m : Int) ∧ f ≤ m ∧ m ≤ n ∧ RF cs d f m g v.2.1) (fun k2 hk v hv => ?_) ⟨f, hf, Nat.le_refl _, fn, fun i h1 h2 => by omega, fun _ _ => ⟨rfl, rfl, rfl, rfl⟩, fun _ _ _ => rfl⟩
  obtain ⟨v2, g', L'⟩ := v
  obtain ⟨m, hm, fm, mn, hR⟩ := hv
  replace hm : v2.toInt = (m : Int) := hm
  replace hR : RF cs d f m g g' := hR
  show Pc (fX1_lostFrom_8_s2 fu k2 v2 g' L') _
  unfold fX1_lostFrom_8_s2
  have e12 : (g' 1 2).toInt = (n : Int) := by rw [hR.2.2 1 (by decide) (by omega)]; exact hn.1
  refine pc_ite (fun c => ?_) (fun c => ?_)
  · have c := icc_le e12 hm c
    rw [show m = n by omega] at hR
    refine pc_cb (lost_x (h.c hR.2.2)) (fun x2 g3 L4 e => pc_some ⟨?_, ?_⟩)
    · rw [e.1]; exact hR
    · rw [e.1]; exact e.2
  · have c := icc_nle e12 hm c
    refine pc_cb (rf_s h hm (by omega) fm hR) (fun x g3 L4 e3 => hk _ ⟨m + 1, ?_, by omega, by omega, e3⟩)
    show (v2 + 1).toInt = _
    rw [ic_addc hm (n := 1) rfl (by omega) (by omega)]; omega
theorem lv_x {cs : Nat → List Int} {n fu : Nat} {g d : gT} {L : lT} (h : DC cs n g d) : Pc (fX1_lostFrom_8 fu 0 g L) (fun x g1 _ => LV cs n d x ∧ ∀ k, k ≠ 21 → (k < 43 ∨ 48 < k) → g1 k = g k) :=
  pc_mo (lf_x h (f := 0) rfl (Nat.zero_le _)) (fun x g1 _ e => ⟨⟨_, _, _, _, fun i hi => e.1.1 i (Nat.zero_le _) hi, e.2⟩, e.1.2.2⟩)
theorem lv_m {cs : Nat → List Int} {n fu : Nat} {d : gT} {L : lT} (h : MD cs n d) : Pc (fX12_lost fu d L) (fun x g1 _ => LV cs n d x ∧ Em d g1) := by
  unfold fX12_lost
  refine pc_cb (wk_m h) (fun y g2 L2 e => pc_mo (lost_m e.2 h.1.1 h.1.2) (fun x g3 _ q => ?_))
  rw [q.1]
  exact ⟨⟨_, _, _, _, e.1, q.2⟩, e.2⟩
/-- another rule in force -/
theorem DC.rule {cs : Nat → List Int} {n : Nat} {g d : gT} {r : Int32} (h : DC cs n g d) (hr : r = -1 ∨ (0 ≤ r.toInt ∧ r.toInt < (g 3 3).toInt)) : DC cs n (upd2 g 6 11 r) (upd2 d 0 52 r) := by
  obtain ⟨a1, a3, a4, a5, a6, a7, a8, a9, a10⟩ := h
  have ek : ∀ k, k ≠ 6 → upd2 g 6 11 r k = g k := fun k hk => funext fun _ => upd2_nk hk
  have dk : ∀ k, k ≠ 0 → upd2 d 0 52 r k = d k := fun k hk => funext fun _ => upd2_nk hk
  have d0 : ∀ j, j ≠ 52 → upd2 d 0 52 r 0 j = d 0 j := fun j hj => upd2_nj hj
  refine ⟨by rw [ek 1 (by decide)]; exact a1, fun i hi => ⟨(a3 i hi).1.c (ek _ (by omega)) (ek _ (by omega)) (fun k x _ => dk k (by omega)), (a3 i hi).2.c (ek _ (by decide)) (ek _ (by decide)) (ek _ (by decide)) (ek _ (by decide)) (dk 12 (by decide))⟩, ?_, wf_e a5 (dk 5 (by decide)) (dk 6 (by decide)) (dk 8 (by decide)) (dk 9 (by decide)), ?_, ⟨?_, ?_⟩, ?_, ?_, ?_⟩
  · rw [ek 1 (by decide), d0 3 (by decide), d0 4 (by decide)]; exact a4
  · rw [dk 12 (by decide), dk 8 (by decide)]; exact a6
  · rw [upd2_at, upd2_at]
  · rw [upd2_at, ek 3 (by decide)]; exact hr
  · rw [ek 3 (by decide), ek 20 (by decide), ek 19 (by decide)]; exact a8
  · rw [ek 8 (by decide), d0 60 (by decide)]; exact a9
  · rw [ek 8 (by decide), d0 61 (by decide)]; exact a10
/-- the codes of all rules, in the reference -/
def MR (cs : Nat → List Int) (d : gT) : Prop := ∀ r : Nat, (r : Int) < (d 0 2).toInt → ∃ p : Nat, (d 10 r).toInt = (p : Int) ∧ At (d 11) p (enc (cs r) ++ [0]) ∧ rp (cs r) 0 1
theorem dc_all {g d : gT} (h : CR g d) : ∃ cs, DC cs (d 0 1).toInt.toNat g d ∧ MD cs (d 0 1).toInt.toNat d ∧ MR cs d := by
  obtain ⟨⟨hp, h⟩, hw, ⟨hr, -⟩, -⟩ := h
  obtain ⟨-, hI, hJ, -, -, -, ⟨k1, k2, -⟩, -⟩ := hp
  obtain ⟨⟨d1, d2, d3, cs, o, p, r1, r2⟩, ⟨u1, u2, -⟩, -, -, f1, f2, f3, f4⟩ := h
  have q1 := hI 0 1 0 12 rfl
  have q2 := hI 0 2 0 4 rfl
  have q4 := hI 0 4 1 99 rfl
  have q52 := hI 0 52 (-1) 3 rfl
  have j52 := hJ.2.1
  have l8 : ∀ i, 0 ≤ (d 8 i).toInt ∧ (d 8 i).toInt ≤ 6 := fun i => hI 8 i 0 6 rfl
  have c52 : d 0 52 = -1 ∨ (0 ≤ (d 0 52).toInt ∧ (d 0 52).toInt < (d 0 2).toInt) := by
    by_cases c : (d 0 52).toInt = -1
    · exact Or.inl (ic_eq.mpr c)
    · exact Or.inr (by omega)
  have mr : MR cs d := fun r hr => by
    obtain ⟨-, -, a3, a4, a5⟩ := r2 r (by omega)
    exact ⟨p r, a3, At_i a4, a5⟩
  refine ⟨cs, ⟨⟨by rw [k1]; omega, by omega⟩, fun i hi => ⟨d1 i (by omega), u1 i (by omega)⟩, ⟨d2, d3, q4.1⟩, hw, fun i hi => ⟨hr i (by omega), l8 i⟩, ⟨u2, by rw [k2]; exact c52⟩, fun r hr => ?_, fun i hi => ?_, by rw [f2, f4]⟩, ⟨⟨by omega, by omega⟩, hw, fun i _ => l8 i, ?_⟩, mr⟩
  · rw [k2] at hr
    obtain ⟨a1, a2, -, -, a5⟩ := r2 r (by omega)
    exact ⟨o r, r1 r (by omega), by rw [r1 (r + 1) (by omega), a1]; omega, At_d a2, a5⟩
  · rw [f1, f3]
    exact ⟨fun h => absurd h (stb_1 i (by omega)), fun h => absurd h (stb_0 i (by omega))⟩
  · rcases c52 with c | c
    · exact Or.inl c
    · obtain ⟨q, a1, a2⟩ := mr (d 0 52).toInt.toNat (by omega)
      exact Or.inr ⟨(d 0 52).toInt.toNat, q, by omega, a1, a2⟩
theorem MR.d {cs : Nat → List Int} {d e : gT} (h : MR cs d) (he : E0 d e) : MR cs e := by
  unfold MR
  rw [he.k (show 10 ≠ 0 by decide), he.k (show 11 ≠ 0 by decide), he 0 2 (fun x => absurd x.2 (by decide))]
  exact h
theorem MD.rule {cs : Nat → List Int} {n : Nat} {d : gT} {r : Int32} (h : MD cs n d) (hm : MR cs d) (hr : r = -1 ∨ (0 ≤ r.toInt ∧ r.toInt < (d 0 2).toInt)) : MD cs n (upd2 d 0 52 r) := by
  obtain ⟨a1, a2, a3, -⟩ := h
  have dk : ∀ k, k ≠ 0 → upd2 d 0 52 r k = d k := fun k hk => funext fun _ => upd2_nk hk
  refine ⟨by rw [upd2_nj (by decide)]; exact a1, wf_e a2 (dk 5 (by decide)) (dk 6 (by decide)) (dk 8 (by decide)) (dk 9 (by decide)), by rw [dk 8 (by decide)]; exact a3, ?_⟩
  rw [upd2_at, dk 10 (by decide), dk 11 (by decide)]
  rcases hr with c | c
  · exact Or.inl c
  · obtain ⟨p, b1, b2⟩ := hm r.toInt.toNat (by omega)
    exact Or.inr ⟨r.toInt.toNat, p, by omega, b1, b2⟩
/-- what is lost by a rule -/
theorem lr_x {cs : Nat → List Int} {n fu : Nat} {r : Int32} {g d : gT} {L : lT} (h : DC cs n g d) (hr : r = -1 ∨ (0 ≤ r.toInt ∧ r.toInt < (g 3 3).toInt)) : Pc (fX10_lostByRule_9 fu r g L) (fun x g1 _ => LV cs n (upd2 d 0 52 r) x ∧ ∀ k, k ≠ 21 → (k < 43 ∨ 48 < k) → g1 k = g k) := by
  unfold fX10_lostByRule_9
  refine pc_lti (fun x1 e1 => pc_st (fun g2 e2 => pc_cb (lv_x (by rw [e2]; exact h.rule hr)) (fun x3 g4 L5 e4 => pc_st (fun g7 e7 => pc_some ⟨e4.1, fun k h1 h2 => ?_⟩))))
  by_cases hk : k = 6
  · subst hk
    rw [e7, upd2_k, e4.2 6 (by decide) (by omega), e2, upd2_k, e1]
    funext j
    by_cases hj : j = 11
    · rw [hj, upd_at]
    · rw [upd_ne hj, upd_ne hj]
  · rw [e7]
    funext j
    rw [upd2_nk hk, e4.2 k h1 h2, e2, upd2_nk hk]
theorem lr_m {cs : Nat → List Int} {n fu : Nat} {r : Int32} {d : gT} {L : lT} (h : MD cs n d) (hm : MR cs d) (hr : r = -1 ∨ (0 ≤ r.toInt ∧ r.toInt < (d 0 2).toInt)) : Pc (fX12_lostBy fu r d L) (fun x g1 _ => LV cs n (upd2 d 0 52 r) x ∧ Em d g1) := by
  unfold fX12_lostBy
  refine pc_lti (fun x1 e1 => pc_st (fun g2 e2 => pc_cb (lv_m (cs := cs) (n := n) (by rw [e2]; exact h.rule hm hr)) (fun x3 g4 L5 e4 => pc_st (fun g7 e7 => pc_some ⟨by rw [e2] at e4; exact e4.1, fun k hk => ?_⟩))))
  by_cases h0 : k = 0
  · subst h0
    rw [e7, upd2_k, e4.2 0 (by omega), e2, upd2_k, e1]
    funext j
    by_cases hj : j = 52
    · rw [hj, upd_at]
    · rw [upd_ne hj, upd_ne hj]
  · rw [e7]
    funext j
    rw [upd2_nk h0, e4.2 k hk, e2, upd2_nk h0]
theorem cr_compare {fu : Nat} {p1 : Int32} {g gm g1 g2 : gT} {L Lm L1 L2 : lT} {rx : Except String Int32} {rm : Int32} (h : CR g gm) (e1 : fX11_compare_0 fu p1 g L = some (rx, (g1, L1))) (e2 : fX12_compare fu p1 gm Lm = some (rm, (g2, L2))) : (rx = .ok rm ∧ g2 0 0 = 0) ∨ (rx = .error NSE ∧ g2 0 0 = 1) := by
  obtain ⟨k1, k2, -⟩ := h.1.1.2.2.2.2.2.2.1
  have a0 : upd2 gm 0 0 0 0 0 = 0 := upd2_at
  have a2 : upd2 gm 0 0 0 0 2 = gm 0 2 := rfl
  have im : (-1 : Int32).toInt = -1 := rfl
  unfold fX11_compare_0 fX11_isRuleOrNone_0 fX11_isRuleOrNone_0_p23 fX11_isRuleOrNone_0_p24 at e1
  unfold fX12_compare fX12_compare_p23 fX12_compare_p24 fX12_compare_p40 at e2
  unfold sti at e2
  have e2 : (if p1 < -1 then _ else if gm 0 2 ≤ p1 then _ else _) = some (rm, (g2, L2)) := e2
  rw [k2] at e1
  have bad : ∀ {K : Option (Except String Int32 × zS)} {K' : Option (Int32 × zS)}, (cb (ckb 0 (some ((0 : Int32), ((g, L) : zS)))) (fun x1 g2 L3 => if x1 = 0 then some ((.error "java/util/NoSuchElementException" : Except String Int32), ((g2, L3) : zS)) else cb (fX10_lostByRule_9 fu p1 g2 L3) (fun x6 g7 L8 => some (.ok x6, (g7, L8))))) = some (rx, (g1, L1)) → (cb (fX12_right fu 0 1 (upd2 gm 0 0 0) Lm) (fun x2 g3 L4 => if x2 = 0 then some ((0 : Int32), ((g3, L4) : zS)) else cb (fX12_lostBy fu p1 g3 L4) (fun x7 g8 L9 => some (x7, (g8, L9))))) = some (rm, (g2, L2)) → (rx = .ok rm ∧ g2 0 0 = 0) ∨ (rx = .error NSE ∧ g2 0 0 = 1) := by
    intro _ _ u v
    rw [ckb0, cbs, if_pos rfl] at u
    rw [right0 a0 (by decide), cbs, if_pos rfl] at v
    cases u; cases v
    exact Or.inr ⟨rfl, upd2_at⟩
  by_cases c1 : p1 < -1
  · rw [if_pos c1] at e1 e2
    exact bad (K := none) (K' := none) e1 e2
  rw [if_neg c1] at e1 e2
  by_cases c2 : gm 0 2 ≤ p1
  · rw [if_pos c2] at e1 e2
    exact bad (K := none) (K' := none) e1 e2
  rw [if_neg c2] at e1 e2
  have c1 := icc_nlt (m := p1.toInt) rfl im c1
  have c2 := icc_nle (m := (gm 0 2).toInt) (n := p1.toInt) rfl rfl c2
  have hr : p1 = -1 ∨ (0 ≤ p1.toInt ∧ p1.toInt < (gm 0 2).toInt) := by
    by_cases c : p1.toInt = -1
    · exact Or.inl (ic_eq.mpr c)
    · exact Or.inr (by omega)
  obtain ⟨cs, hX, hM, hR⟩ := dc_all h
  rw [ckb1, cbs, if_neg (by decide)] at e1
  rw [right1 a0, cbs, if_neg (by decide)] at e2
  obtain ⟨xa, ga, La, ea, e1⟩ := cb_some e1
  obtain ⟨xb, gb, Lb, eb, e2⟩ := cb_some e2
  cases e1; cases e2
  have u := lr_x (hX.d (e0_u (x := 0))) (by rw [k2]; exact hr) _ _ _ ea
  have v := lr_m (hM.d (e0_u (x := 0))) (hR.d (e0_u (x := 0))) hr _ _ _ eb
  refine Or.inl ⟨?_, by rw [v.2 0 (by omega)]; exact a0⟩
  rw [LV.u ((hM.d e0_u).rule (hR.d e0_u) hr).2.1 u.1 v.1]
end
section
/-! ===== the first of the least: best, last ===== -/
def AM (P : Int → Int32 → Prop) (lo hi c : Int) : Prop := lo ≤ c ∧ c < hi ∧ ∀ v, P c v → ∀ r w, lo ≤ r → r < hi → P r w → v.toInt ≤ w.toInt ∧ (r < c → v.toInt < w.toInt)
theorem AM.u {P : Int → Int32 → Prop} {lo hi c c' : Int} (ex : ∀ r, lo ≤ r → r < hi → ∃ w, P r w) (h : AM P lo hi c) (h' : AM P lo hi c') : c = c' := by
  obtain ⟨a1, a2, a3⟩ := h
  obtain ⟨b1, b2, b3⟩ := h'
  obtain ⟨v, hv⟩ := ex c a1 a2
  obtain ⟨w, hw⟩ := ex c' b1 b2
  have x := a3 v hv c' w b1 b2 hw
  have y := b3 w hw c v a1 a2 hv
  rcases (by omega : c < c' ∨ c = c' ∨ c' < c) with e | e | e
  · have := y.2 e; omega
  · exact e
  · have := x.2 e; omega
/-- what is offered next loses more, or as much -/
theorem AM.keep {P : Int → Int32 → Prop} {lo m c : Int} {v w : Int32} (fP : ∀ r v v', P r v → P r v' → v = v') (h : AM P lo m c) (hv : P c v) (hw : P m w) (hle : v.toInt ≤ w.toInt) : AM P lo (m + 1) c := by
  obtain ⟨a1, a2, a3⟩ := h
  refine ⟨a1, by omega, fun v' hv' r w' h1 h2 hr => ?_⟩
  obtain rfl := fP c v v' hv hv'
  rcases (by omega : r < m ∨ r = m) with e | e
  · exact a3 v hv r w' h1 e hr
  · subst e
    obtain rfl := fP r w w' hw hr
    exact ⟨hle, fun h => by omega⟩
/-- what is offered next loses less -/
theorem AM.new {P : Int → Int32 → Prop} {lo m c : Int} {v w : Int32} (fP : ∀ r v v', P r v → P r v' → v = v') (h : AM P lo m c) (hv : P c v) (hw : P m w) (hlt : w.toInt < v.toInt) : AM P lo (m + 1) m := by
  obtain ⟨a1, a2, a3⟩ := h
  refine ⟨by omega, by omega, fun v' hv' r w' h1 h2 hr => ?_⟩
  obtain rfl := fP m w v' hw hv'
  rcases (by omega : r < m ∨ r = m) with e | e
  · have := a3 v hv r w' h1 e hr
    exact ⟨by omega, fun _ => by omega⟩
  · subst e
    obtain rfl := fP r w w' hw hr
    exact ⟨Int.le_refl _, fun h => by omega⟩
theorem AM.one {P : Int → Int32 → Prop} {m : Int} (fP : ∀ r v v', P r v → P r v' → v = v') : AM P m (m + 1) m := by
  refine ⟨Int.le_refl _, by omega, fun v hv r w h1 h2 hr => ?_⟩
  have e : r = m := by omega
  subst e
  obtain rfl := fP r v w hv hr
  exact ⟨Int.le_refl _, fun h => by omega⟩
/-- what the class keeps of what was offered -/
def LK (P : Int → Int32 → Prop) (lo m : Int) (g : gT) : Prop := (m = lo ∧ g 13 0 = 0) ∨ (lo < m ∧ ¬ g 13 0 = 0 ∧ P (g 13 1).toInt (g 13 2) ∧ AM P lo m (g 13 1).toInt)
theorem clear_x {fu : Nat} {g : gT} {L : lT} : Pc (fX4_clear_13 fu g L) (fun _ g1 _ => g1 13 0 = 0 ∧ ∀ k, k ≠ 13 → g1 k = g k) := by
  unfold fX4_clear_13
  exact pc_st (fun g1 e => pc_some ⟨by rw [e, upd2_at], fun k hk => by rw [e]; exact funext fun _ => upd2_nk hk⟩)
theorem offer_x {P : Int → Int32 → Prop} {fu : Nat} {lo m : Int} {p1 p2 : Int32} {g : gT} {L : lT} (fP : ∀ r v v', P r v → P r v' → v = v') (hm : p1.toInt = m) (h : LK P lo m g) (hw : P m p2) : Pc (fX4_offer_13 fu p1 p2 g L) (fun _ g1 _ => LK P lo (m + 1) g1 ∧ ∀ k, k ≠ 13 → g1 k = g k) := by
  unfold fX4_offer_13 fX4_offer_13_p31 fX4_offer_13_p46
  have take : AM P lo (m + 1) m → Pc (sti g 13 0 1 (fun g1 => sti g1 13 1 p1 (fun g2 => sti g2 13 2 p2 (fun g3 => some ((), ((g3, L) : zS)))))) (fun _ g1 _ => LK P lo (m + 1) g1 ∧ ∀ k, k ≠ 13 → g1 k = g k) := by
    intro ha
    refine pc_st (fun g1 e1 => pc_st (fun g2 e2 => pc_st (fun g3 e3 => pc_some ⟨Or.inr ?_, fun k hk => ?_⟩)))
    · have z0 : g3 13 0 = 1 := by rw [e3, upd2_nj (by decide), e2, upd2_nj (by decide), e1, upd2_at]
      have z1 : g3 13 1 = p1 := by rw [e3, upd2_nj (by decide), e2, upd2_at]
      have z2 : g3 13 2 = p2 := by rw [e3, upd2_at]
      rw [z0, z1, z2, hm]
      exact ⟨by have := ha.1; omega, by decide, hw, ha⟩
    · rw [e3, e2, e1]
      exact funext fun _ => by rw [upd2_nk hk, upd2_nk hk, upd2_nk hk]
  have stay : AM P lo (m + 1) (g 13 1).toInt → lo < m → ¬ g 13 0 = 0 → P (g 13 1).toInt (g 13 2) → Pc (some ((), ((g, L) : zS))) (fun _ g1 _ => LK P lo (m + 1) g1 ∧ ∀ k, k ≠ 13 → g1 k = g k) := fun ha h1 h2 h3 => pc_some ⟨Or.inr ⟨by omega, h2, h3, ha⟩, fun _ _ => rfl⟩
  rcases h with ⟨h1, h2⟩ | ⟨h1, h2, h3, h4⟩
  · rw [if_pos h2]
    refine take ?_
    rw [h1]; exact AM.one fP
  · rw [if_neg h2]
    refine pc_ite (fun c => take (h4.new fP h3 hw (ic_lt.mp c))) (fun c => pc_ite (fun c1 => pc_ite (fun _ => stay (h4.keep fP h3 hw (by rw [c1]; exact Int.le_refl _)) h1 h2 h3) (fun c2 => ?_)) (fun c1 => stay (h4.keep fP h3 hw ?_) h1 h2 h3))
    · exfalso
      have c2 := icc_nle (m := (g 13 1).toInt) rfl hm c2
      have := h4.2.1
      omega
    · exact icc_nlt (m := p2.toInt) (n := (g 13 2).toInt) rfl rfl c
theorem DC.c2 {cs : Nat → List Int} {n : Nat} {g g' d : gT} (h : DC cs n g d) (e : ∀ k, k ≠ 13 → k ≠ 21 → (k < 43 ∨ 48 < k) → g' k = g k) : DC cs n g' d := by
  obtain ⟨⟨a1, a2⟩, a3, a4, a5, a6, a7, a8, a9, a10⟩ := h
  unfold DC
  rw [e 1 (by decide) (by decide) (by omega), e 6 (by decide) (by decide) (by omega), e 3 (by decide) (by decide) (by omega), e 20 (by decide) (by decide) (by omega), e 19 (by decide) (by decide) (by omega), e 8 (by decide) (by decide) (by omega)]
  refine ⟨⟨a1, a2⟩, fun i hi => ⟨(a3 i hi).1.c (e _ (by omega) (by omega) (by omega)) (e _ (by omega) (by omega) (by omega)) (fun _ _ _ => rfl), (a3 i hi).2.c (e _ (by decide) (by decide) (by omega)) (e _ (by decide) (by decide) (by omega)) (e _ (by decide) (by decide) (by omega)) (e _ (by decide) (by decide) (by omega)) rfl⟩, a4, a5, a6, a7, a8, a9, a10⟩
/-- the data alone -/
def Td (d : gT) : gT := fun k => if k < 29 then d k else fun _ => 0
theorem Td_k {d : gT} {k : Nat} (h : k < 29) : Td d k = d k := if_pos h
theorem Td_e {d g : gT} (h : Em d g) : Td g = Td d := by
  funext k
  by_cases hk : k < 29
  · rw [Td_k hk, Td_k hk, h k (Or.inl hk)]
  · unfold Td; rw [if_neg hk, if_neg hk]
theorem DY_T {cs : Nat → List Int} {d : gT} {n : Nat} {bg en ru by_ : Nat → Int32} : DY cs (Td d) n bg en ru by_ = DY cs d n bg en ru by_ := rfl
theorem fLost_T {d : gT} {en : Nat → Int32} : fLost (Td d) en = fLost d en := rfl
theorem LV.e {cs : Nat → List Int} {n : Nat} {d g : gT} {v : Int32} (h : Em d g) (hv : LV cs n g v) : LV cs n d v := by
  obtain ⟨bg, en, ru, by_, h1, h2⟩ := hv
  rw [← DY_T, Td_e h, DY_T] at h1
  rw [← fLost_T, Td_e h, fLost_T] at h2
  exact ⟨bg, en, ru, by_, h1, h2⟩
theorem MD.e {cs : Nat → List Int} {n : Nat} {d g : gT} (h : MD cs n d) (e : Em d g) : MD cs n g := by
  unfold MD WF
  rw [e 0 (by omega), e 5 (by omega), e 6 (by omega), e 8 (by omega), e 9 (by omega), e 10 (by omega), e 11 (by omega)]
  exact h
theorem MR.e {cs : Nat → List Int} {d g : gT} (h : MR cs d) (e : Em d g) : MR cs g := by
  unfold MR
  rw [e 0 (by omega), e 10 (by omega), e 11 (by omega)]
  exact h
theorem Em.rule {d g : gT} {r : Int32} (e : Em d g) : Em (upd2 d 0 52 r) (upd2 g 0 52 r) := by
  intro k hk
  by_cases h0 : k = 0
  · subst h0; rw [upd2_k, upd2_k, e 0 (by omega)]
  · funext j; rw [upd2_nk h0, upd2_nk h0, e k hk]
def PRl (cs : Nat → List Int) (n : Nat) (d : gT) (r : Int) (v : Int32) : Prop := LV cs n (upd2 d 0 52 (Int32.ofInt r)) v
theorem PRl.f {cs : Nat → List Int} {n : Nat} {d : gT} (hW : WF n d) : ∀ r v v', PRl cs n d r v → PRl cs n d r v' → v = v' := fun r v v' h h' => LV.u (wf_e hW (funext fun _ => upd2_nk (by decide)) (funext fun _ => upd2_nk (by decide)) (funext fun _ => upd2_nk (by decide)) (funext fun _ => upd2_nk (by decide))) h h'
theorem pr_of {cs : Nat → List Int} {n : Nat} {d : gT} {r v : Int32} {m : Int} (hm : r.toInt = m) (h : LV cs n (upd2 d 0 52 r) v) : PRl cs n d m v := by
  unfold PRl; rw [← hm, io_i]; exact h
theorem rng {r : Int32} {R : Int} (h1 : -1 ≤ r.toInt) (h2 : r.toInt < R) : r = -1 ∨ (0 ≤ r.toInt ∧ r.toInt < R) := by
  by_cases c : r.toInt = -1
  · exact Or.inl (ic_eq.mpr c)
  · exact Or.inr (by omega)
theorem best_x {cs : Nat → List Int} {n fu : Nat} {g d : gT} {L : lT} (h : DC cs n g d) (h0 : 0 ≤ (g 3 3).toInt) (h4 : (g 3 3).toInt ≤ 4) : Pc (fX10_bestRule_9 fu g L) (fun x _ _ => AM (PRl cs n d) (-1) (g 3 3).toInt x.toInt ∧ ∀ r, -1 ≤ r → r < (g 3 3).toInt → ∃ w, PRl cs n d r w) := by
  unfold fX10_bestRule_9
  refine pc_cb clear_x (fun x1 g2 L3 e2 => ?_)
  unfold fX10_bestRule_9_l9
  have hW := h.2.2.2.1
  refine pc_loop (fun v => ∃ m : Int, v.1.toInt = m ∧ -1 ≤ m ∧ m ≤ (g 3 3).toInt ∧ (∀ k, k ≠ 13 → k ≠ 21 → (k < 43 ∨ 48 < k) → v.2.1 k = g k) ∧ LK (PRl cs n d) (-1) m v.2.1 ∧ ∀ r, -1 ≤ r → r < m → ∃ w, PRl cs n d r w) (fun k9 hk v hv => ?_) ⟨-1, rfl, Int.le_refl _, by omega, fun k a _ _ => e2.2 k a, Or.inl ⟨rfl, e2.1⟩, fun r a b => by omega⟩
  obtain ⟨v1, g', L'⟩ := v
  obtain ⟨m, hm, m1, m2, ek, hl, ex⟩ := hv
  replace hm : v1.toInt = m := hm
  replace ek : ∀ k, k ≠ 13 → k ≠ 21 → (k < 43 ∨ 48 < k) → g' k = g k := ek
  replace hl : LK (PRl cs n d) (-1) m g' := hl
  show Pc (fX10_bestRule_9_s9 fu k9 v1 g' L') _
  unfold fX10_bestRule_9_s9
  rw [ek 3 (by decide) (by decide) (by omega)]
  refine pc_ite (fun c => ?_) (fun c => ?_)
  · have c := icc_le (m := (g 3 3).toInt) rfl hm c
    have em : m = (g 3 3).toInt := by omega
    rw [em] at hl ex
    rcases hl with ⟨l1, -⟩ | ⟨-, l2, -, l4⟩
    · omega
    · unfold fX4_told_13 fX4_told_13_p24
      rw [if_neg l2, if_pos rfl, cbs]
      exact pc_some ⟨l4, ex⟩
  · have c := icc_nle (m := (g 3 3).toInt) rfl hm c
    have h33 : g' 3 3 = g 3 3 := by rw [ek 3 (by decide) (by decide) (by omega)]
    refine pc_cb (lr_x (h.c2 ek) (by rw [h33]; exact rng (by omega) (by omega))) (fun x10 g11 L12 e10 => ?_)
    have pm : PRl cs n d m x10 := pr_of hm e10.1
    have hl' : LK (PRl cs n d) (-1) m g11 := by
      unfold LK; rw [e10.2 13 (by decide) (by omega)]; exact hl
    refine pc_cb (offer_x (PRl.f hW) hm hl' pm) (fun x14 g15 L16 e15 => hk _ ⟨m + 1, ?_, by omega, by omega, fun k a b c => ?_, e15.1, fun r a b => ?_⟩)
    · show (v1 + 1).toInt = _
      rw [ic_addc hm (n := 1) rfl (by omega) (by omega)]
    · show g15 k = g k
      rw [e15.2 k a, e10.2 k b c, ek k a b c]
    · rcases (by omega : r < m ∨ r = m) with e | e
      · exact ex r a e
      · exact ⟨x10, by rw [e]; exact pm⟩
theorem best_m {cs : Nat → List Int} {n fu : Nat} {d : gT} {L : lT} (hM : MD cs n d) (hR : MR cs d) (h0 : 0 ≤ (d 0 2).toInt) (h4 : (d 0 2).toInt ≤ 4) : Pc (fX12_best_l9 fu (-1) 0 d L) (fun x g1 _ => Em d g1 ∧ AM (PRl cs n d) (-1) (d 0 2).toInt x.toInt) := by
  unfold fX12_best_l9
  have hW := hM.2.1
  refine pc_loop (fun v => ∃ m : Int, v.2.1.toInt = m ∧ 0 ≤ m ∧ m ≤ (d 0 2).toInt ∧ Em d v.2.2.1 ∧ AM (PRl cs n d) (-1) m v.1.toInt) (fun k9 hk v hv => ?_) ⟨0, rfl, by omega, h0, fun _ _ => rfl, AM.one (m := -1) (PRl.f hW)⟩
  obtain ⟨v1, v2, g', L'⟩ := v
  obtain ⟨m, hm, m1, m2, e, ha⟩ := hv
  replace hm : v2.toInt = m := hm
  replace e : Em d g' := e
  replace ha : AM (PRl cs n d) (-1) m v1.toInt := ha
  show Pc (fX12_best_s9 fu k9 v1 v2 g' L') _
  unfold fX12_best_s9 fX12_best_p32
  have e02 : (g' 0 2).toInt = (d 0 2).toInt := by rw [e 0 (by omega)]
  refine pc_ite (fun c => pc_some ⟨e, ?_⟩) (fun c => ?_)
  · have c := icc_le e02 hm c
    rw [show (d 0 2).toInt = m by omega]; exact ha
  have c := icc_nle e02 hm c
  have ew : (v2 + 1).toInt = m + 1 := ic_addc hm (n := 1) rfl (by omega) (by omega)
  refine pc_cb (lr_m (hM.e e) (hR.e e) (by rw [e02]; exact rng (by omega) (by omega))) (fun x3 g4 L5 e3 => ?_)
  have p3 : PRl cs n d m x3 := pr_of hm (e3.1.e e.rule)
  have e4 : Em d g4 := fun k hk => (e3.2 k hk).trans (e k hk)
  have e42 : (g4 0 2).toInt = (d 0 2).toInt := by rw [e4 0 (by omega)]
  refine pc_cb (lr_m (hM.e e4) (hR.e e4) (by rw [e42]; exact rng ha.1 (by have := ha.2.1; omega))) (fun x7 g8 L9 e7 => ?_)
  have p7 : PRl cs n d v1.toInt x7 := pr_of rfl (e7.1.e e4.rule)
  have e8 : Em d g8 := fun k hk => (e7.2 k hk).trans (e4 k hk)
  refine pc_ite (fun c1 => hk _ ⟨m + 1, ew, by omega, by omega, e8, ha.keep (PRl.f hW) p7 p3 (ic_le.mp c1)⟩) (fun c1 => hk _ ⟨m + 1, ew, by omega, by omega, e8, ?_⟩)
  show AM (PRl cs n d) (-1) (m + 1) v2.toInt
  rw [hm]
  exact ha.new (PRl.f hW) p7 p3 (icc_nle (m := x7.toInt) (n := x3.toInt) rfl rfl c1)
theorem cr_best {fu : Nat} {g gm g1 g2 : gT} {L Lm L1 L2 : lT} {rx rm : Int32} (h : CR g gm) (e1 : fX11_best_0 fu g L = some (rx, (g1, L1))) (e2 : fX12_best fu gm Lm = some (rm, (g2, L2))) : rx = rm := by
  obtain ⟨k1, k2, -⟩ := h.1.1.2.2.2.2.2.2.1
  have q2 := h.1.1.2.1 0 2 0 4 rfl
  have a2 : upd2 gm 0 0 0 0 2 = gm 0 2 := rfl
  obtain ⟨cs, hX, hM, hR⟩ := dc_all h
  unfold fX11_best_0 at e1
  unfold fX12_best sti at e2
  obtain ⟨xa, ga, La, ea, e1⟩ := cb_some e1
  cases e1
  obtain ⟨u1, u2⟩ := best_x (hX.d (e0_u (x := 0))) (by rw [k2]; exact q2.1) (by rw [k2]; exact q2.2) _ _ _ ea
  have v := best_m (hM.d (e0_u (x := 0))) (hR.d (e0_u (x := 0))) q2.1 q2.2 _ _ _ e2
  rw [k2] at u1 u2
  exact ic_eq.mpr (AM.u u2 u1 v.2)
end
section
/-! ===== last answers alike ===== -/
theorem upd2_2 {g : gT} {k j : Nat} {x y : Int32} : upd2 (upd2 g k j x) k j y = upd2 g k j y := by
  funext k' j'
  by_cases hk : k' = k
  · subst hk
    by_cases hj : j' = j
    · subst hj; rw [upd2_at, upd2_at]
    · rw [upd2_nj hj, upd2_nj hj, upd2_nj hj]
  · rw [upd2_nk hk, upd2_nk hk, upd2_nk hk]
theorem upd2_s {g : gT} {k j : Nat} : upd2 g k j (g k j) = g := by
  funext k' j'
  by_cases hk : k' = k
  · subst hk
    by_cases hj : j' = j
    · subst hj; rw [upd2_at]
    · rw [upd2_nj hj]
  · rw [upd2_nk hk]
/-- one entry of what is held changes, in both -/
theorem DC.put {cs : Nat → List Int} {n q l : Nat} {v : Int32} {g d : gT} (h : DC cs n g d) (hq : q ≤ 3) (hl : l < 12) (hv : q = 2 → 0 ≤ v.toInt ∧ v.toInt ≤ 9) : DC cs n (upd2 g (25 + q) l v) (upd2 d 12 (12 * q + l) v) := by
  obtain ⟨a1, a3, a4, a5, a6, a7, a8, a9, a10⟩ := h
  have n12 := a1.2
  have ek : ∀ k, (k < 25 ∨ 28 < k) → upd2 g (25 + q) l v k = g k := fun k hk => funext fun _ => upd2_nk (by omega)
  have dk : ∀ k, k ≠ 12 → upd2 d 12 (12 * q + l) v k = d k := fun k hk => funext fun _ => upd2_nk hk
  refine ⟨by rw [ek 1 (by omega)]; exact a1, fun i hi => ⟨(a3 i hi).1.c (ek _ (by omega)) (ek _ (by omega)) (fun k x y => dk k (by omega)), hc_put (a3 i hi).2 (by omega) hl hq (fun _ _ _ => rfl) rfl⟩, ?_, wf_e a5 (dk 5 (by decide)) (dk 6 (by decide)) (dk 8 (by decide)) (dk 9 (by decide)), fun i hi => ⟨?_, ?_⟩, ?_, ?_, ?_, ?_⟩
  · rw [ek 1 (by omega), dk 0 (by decide)]; exact a4
  · by_cases e : 24 + i = 12 * q + l
    · rw [e, upd2_at]; exact hv (by omega)
    · rw [upd2_nj e]; exact (a6 i hi).1
  · rw [dk 8 (by decide)]; exact (a6 i hi).2
  · rw [ek 6 (by omega), ek 3 (by omega), dk 0 (by decide)]; exact a7
  · rw [ek 3 (by omega), ek 20 (by omega), ek 19 (by omega)]; exact a8
  · rw [ek 8 (by omega), dk 0 (by decide)]; exact a9
  · rw [ek 8 (by omega), dk 0 (by decide)]; exact a10
theorem MD.put {cs : Nat → List Int} {n j : Nat} {v : Int32} {d : gT} (h : MD cs n d) : MD cs n (upd2 d 12 j v) := by
  have dk : ∀ k, k ≠ 12 → upd2 d 12 j v k = d k := fun k hk => funext fun _ => upd2_nk hk
  unfold MD WF
  rw [dk 0 (by decide), dk 5 (by decide), dk 6 (by decide), dk 8 (by decide), dk 9 (by decide), dk 10 (by decide), dk 11 (by decide)]
  exact h
theorem Em.put {d g : gT} {j : Nat} {v : Int32} (e : Em d g) : Em (upd2 d 12 j v) (upd2 g 12 j v) := by
  intro k hk
  by_cases h0 : k = 12
  · subst h0; rw [upd2_k, upd2_k, e 12 (by omega)]
  · funext j; rw [upd2_nk h0, upd2_nk h0, e k hk]
/-- what is lost if two do not run over -/
theorem lw_x {cs : Nat → List Int} {n a b fu : Nat} {p1 p2 : Int32} {g d : gT} {L : lT} (h : DC cs n g d) (ha : p1.toInt = (a : Int)) (hb : p2.toInt = (b : Int)) (a12 : a < 12) (b12 : b < 12) : Pc (fX10_lostWithout_9 fu p1 p2 g L) (fun x g1 _ => LV cs n (upd2 (upd2 d 12 a 0) 12 b 0) x ∧ ∀ k, k ≠ 21 → (k < 43 ∨ 48 < k) → g1 k = g k) := by
  have ea : p1.toNatClampNeg = a := by rw [nc, ha]; omega
  have eb : p2.toNatClampNeg = b := by rw [nc, hb]; omega
  unfold fX10_lostWithout_9
  rw [ea, eb]
  have hD : DC cs n (upd2 (upd2 g 25 a 0) 25 b 0) (upd2 (upd2 d 12 a 0) 12 b 0) := by
    have x := (h.put (q := 0) (l := a) (v := 0) (by decide) a12 (fun e => absurd e (by decide))).put (q := 0) (l := b) (v := 0) (by decide) b12 (fun e => absurd e (by decide))
    rw [show 12 * 0 + a = a by omega, show 12 * 0 + b = b by omega] at x
    exact x
  refine pc_ck (fun _ _ => pc_lti (fun x1 e1 => pc_ck (fun _ _ => pc_lti (fun x2 e2 => pc_ck (fun _ _ => pc_st (fun g3 e3 => pc_ck (fun _ _ => pc_st (fun g4 e4 => pc_cb (lv_x (cs := cs) (n := n) (d := upd2 (upd2 d 12 a 0) 12 b 0) (by rw [e4, e3]; exact hD)) (fun x5 g6 L7 e6 => pc_ck (fun _ _ => pc_st (fun g9 e9 => pc_ck (fun _ _ => pc_st (fun g10 e10 => pc_some ⟨e6.1, fun k h1 h2 => ?_⟩)))))))))))))
  by_cases hk : k = 25
  · subst hk
    funext j
    rw [e10]
    by_cases jb : j = b
    · subst jb; rw [upd2_at, e2]
    · rw [upd2_nj jb, e9]
      by_cases ja : j = a
      · subst ja; rw [upd2_at, e1]
      · rw [upd2_nj ja, e6.2 25 (by decide) (by omega), e4, upd2_nj jb, e3, upd2_nj ja]
  · funext j
    rw [e10, upd2_nk hk, e9, upd2_nk hk, e6.2 k h1 h2, e4, upd2_nk hk, e3, upd2_nk hk]
def PL (cs : Nat → List Int) (n : Nat) (d : gT) (r : Int) (v : Int32) : Prop := LV cs n (upd2 d 12 r.toNat 0) v
theorem PL.f {cs : Nat → List Int} {n : Nat} {d : gT} (hW : WF n d) : ∀ r v v', PL cs n d r v → PL cs n d r v' → v = v' := fun r v v' h h' => LV.u (wf_e hW (funext fun _ => upd2_nk (by decide)) (funext fun _ => upd2_nk (by decide)) (funext fun _ => upd2_nk (by decide)) (funext fun _ => upd2_nk (by decide))) h h'
theorem last_x {cs : Nat → List Int} {n fu : Nat} {g d : gT} {L : lT} (h : DC cs n g d) : Pc (fX10_withoutOne_9 fu g L) (fun x _ _ => ((n = 0 ∧ x = -1) ∨ (0 < n ∧ AM (PL cs n d) 0 (n : Int) x.toInt)) ∧ ∀ r, 0 ≤ r → r < (n : Int) → ∃ w, PL cs n d r w) := by
  unfold fX10_withoutOne_9
  refine pc_cb clear_x (fun x1 g2 L3 e2 => ?_)
  unfold fX10_withoutOne_9_l9
  have hW := h.2.2.2.1
  have hn := h.1
  refine pc_loop (fun v => ∃ m : Nat, v.1.toInt = (m : Int) ∧ m ≤ n ∧ (∀ k, k ≠ 13 → k ≠ 21 → (k < 43 ∨ 48 < k) → v.2.1 k = g k) ∧ LK (PL cs n d) 0 (m : Int) v.2.1 ∧ ∀ r, 0 ≤ r → r < (m : Int) → ∃ w, PL cs n d r w) (fun k9 hk v hv => ?_) ⟨0, rfl, by omega, fun k a _ _ => e2.2 k a, Or.inl ⟨rfl, e2.1⟩, fun r a b => by omega⟩
  obtain ⟨v1, g', L'⟩ := v
  obtain ⟨m, hm, m2, ek, hl, ex⟩ := hv
  replace hm : v1.toInt = (m : Int) := hm
  replace ek : ∀ k, k ≠ 13 → k ≠ 21 → (k < 43 ∨ 48 < k) → g' k = g k := ek
  replace hl : LK (PL cs n d) 0 (m : Int) g' := hl
  show Pc (fX10_withoutOne_9_s9 fu k9 v1 g' L') _
  unfold fX10_withoutOne_9_s9 fX10_lessonCount_9
  rw [ek 1 (by decide) (by decide) (by omega), cbs]
  refine pc_ite (fun c => ?_) (fun c => ?_)
  · have c := icc_le hn.1 hm c
    have em : m = n := by omega
    subst em
    unfold fX4_told_13 fX4_told_13_p24
    rcases hl with ⟨l1, l2⟩ | ⟨l1, l2, -, l4⟩
    · rw [if_pos l2, cbs]
      exact pc_some ⟨Or.inl ⟨by omega, rfl⟩, ex⟩
    · rw [if_neg l2, if_pos rfl, cbs]
      exact pc_some ⟨Or.inr ⟨by omega, l4⟩, ex⟩
  · have c := icc_nle hn.1 hm c
    refine pc_cb (lw_x (h.c2 ek) hm hm (by omega) (by omega)) (fun x10 g11 L12 e10 => ?_)
    have pm : PL cs n d (m : Int) x10 := by
      have := e10.1
      rw [upd2_2] at this
      exact this
    have hl' : LK (PL cs n d) 0 (m : Int) g11 := by
      unfold LK; rw [e10.2 13 (by decide) (by omega)]; exact hl
    refine pc_cb (offer_x (PL.f hW) hm hl' pm) (fun x14 g15 L16 e15 => hk _ ⟨m + 1, ?_, by omega, fun k a b c => ?_, ?_, fun r a b => ?_⟩)
    · show (v1 + 1).toInt = _
      rw [ic_addc hm (n := 1) rfl (by omega) (by omega)]; omega
    · show g15 k = g k
      rw [e15.2 k a, e10.2 k b c, ek k a b c]
    · show LK (PL cs n d) 0 ((m + 1 : Nat) : Int) g15
      rw [show ((m + 1 : Nat) : Int) = (m : Int) + 1 by omega]; exact e15.1
    · rcases (by omega : r < (m : Int) ∨ r = (m : Int)) with e | e
      · exact ex r a e
      · exact ⟨x10, by rw [e]; exact pm⟩
theorem last_m {cs : Nat → List Int} {n fu : Nat} {d : gT} {L : lT} (hM : MD cs n d) : Pc (fX12_last_l11 fu (-1) 0 0 d L) (fun x _ _ => (n = 0 ∧ x = -1) ∨ (0 < n ∧ AM (PL cs n d) 0 (n : Int) x.toInt)) := by
  unfold fX12_last_l11
  have hW := hM.2.1
  have n12 := hM.1.2
  refine pc_loop (fun v => ∃ m : Nat, v.2.2.1.toInt = (m : Int) ∧ m ≤ n ∧ Em d v.2.2.2.1 ∧ ((m = 0 ∧ v.1 = -1) ∨ (0 < m ∧ AM (PL cs n d) 0 (m : Int) v.1.toInt ∧ PL cs n d v.1.toInt v.2.1))) (fun k hk v hv => ?_) ⟨0, rfl, by omega, fun _ _ => rfl, Or.inl ⟨rfl, rfl⟩⟩
  obtain ⟨v1, v2, v3, g', L'⟩ := v
  obtain ⟨m, hm, m2, e, hl⟩ := hv
  replace hm : v3.toInt = (m : Int) := hm
  replace e : Em d g' := e
  replace hl : (m = 0 ∧ v1 = -1) ∨ (0 < m ∧ AM (PL cs n d) 0 (m : Int) v1.toInt ∧ PL cs n d v1.toInt v2) := hl
  show Pc (fX12_last_s11 fu k v1 v2 v3 g' L') _
  unfold fX12_last_s11 fX12_last_p68 fX12_last_p73
  have e01 : (g' 0 1).toInt = (n : Int) := by rw [e 0 (by omega)]; exact hM.1.1
  have e0 : (0 + v3).toNatClampNeg = m := by rw [nc, ic_addc (m := 0) rfl hm (by omega) (by omega)]; omega
  refine pc_ite (fun c => pc_some ?_) (fun c => ?_)
  · have c := icc_le e01 hm c
    have em : m = n := by omega
    subst em
    rcases hl with ⟨a, b⟩ | ⟨a, b, -⟩
    · exact Or.inl ⟨a, b⟩
    · exact Or.inr ⟨a, b⟩
  have c := icc_nle e01 hm c
  have ew : (v3 + 1).toInt = ((m + 1 : Nat) : Int) := by rw [ic_addc hm (n := 1) rfl (by omega) (by omega)]; omega
  have ei : ((m + 1 : Nat) : Int) = (m : Int) + 1 := by omega
  rw [e0]
  refine pc_ck (fun _ _ => pc_lti (fun x3 e3 => pc_ck (fun _ _ => pc_st (fun g4 e4 => pc_cb (lv_m (cs := cs) (n := n) (by rw [e4]; exact (hM.e e).put)) (fun x5 g6 L7 e6 => pc_ck (fun _ _ => pc_st (fun g9 e9 => ?_)))))))
  have p5 : PL cs n d (m : Int) x5 := by
    have := e6.1
    rw [e4] at this
    exact this.e e.put
  have e9' : Em d g9 := by
    intro k' hk'
    rw [← e k' hk', e9]
    by_cases h0 : k' = 12
    · subst h0
      rw [upd2_k, e6.2 12 (by omega), e4, upd2_k, e3]
      funext j
      by_cases hj : j = m
      · rw [hj, upd_at]
      · rw [upd_ne hj, upd_ne hj]
    · funext j
      rw [upd2_nk h0, e6.2 k' hk', e4, upd2_nk h0]
  have take : AM (PL cs n d) 0 ((m : Int) + 1) (m : Int) → Pc (k (v3, x5, (v3 + 1), g9, L7)) (fun x _ _ => (n = 0 ∧ x = -1) ∨ (0 < n ∧ AM (PL cs n d) 0 (n : Int) x.toInt)) := by
    intro ha
    refine hk _ ⟨m + 1, ew, by omega, e9', Or.inr ⟨by omega, ?_, ?_⟩⟩
    · show AM (PL cs n d) 0 ((m + 1 : Nat) : Int) v3.toInt
      rw [ei, hm]; exact ha
    · show PL cs n d v3.toInt x5
      rw [hm]; exact p5
  rcases hl with ⟨a, b⟩ | ⟨a, b, b'⟩
  · rw [if_pos b]
    refine take ?_
    rw [a]; exact AM.one (m := 0) (PL.f hW)
  · have nm : ¬ v1 = -1 := fun ee => by
      have := b.1
      rw [ee] at this
      exact absurd this (by decide)
    rw [if_neg nm]
    refine pc_ite (fun c1 => take (b.new (PL.f hW) b' p5 (ic_lt.mp c1))) (fun c1 => hk _ ⟨m + 1, ew, by omega, e9', Or.inr ⟨by omega, ?_, b'⟩⟩)
    show AM (PL cs n d) 0 ((m + 1 : Nat) : Int) v1.toInt
    rw [ei]
    exact b.keep (PL.f hW) b' p5 (icc_nlt (m := x5.toInt) (n := v2.toInt) rfl rfl c1)
theorem cr_last {fu : Nat} {g gm g1 g2 : gT} {L Lm L1 L2 : lT} {rx rm : Int32} (h : CR g gm) (e1 : fX11_last_0 fu g L = some (rx, (g1, L1))) (e2 : fX12_last fu gm Lm = some (rm, (g2, L2))) : rx = rm := by
  obtain ⟨cs, hX, hM, -⟩ := dc_all h
  unfold fX11_last_0 at e1
  unfold fX12_last sti at e2
  obtain ⟨xa, ga, La, ea, e1⟩ := cb_some e1
  cases e1
  obtain ⟨u1, u2⟩ := last_x (hX.d (e0_u (x := 0))) _ _ _ ea
  have v := last_m (hM.d (e0_u (x := 0))) _ _ _ e2
  rcases u1 with ⟨a, b⟩ | ⟨a, b⟩
  · rcases v with ⟨-, b'⟩ | ⟨a', -⟩
    · rw [b, b']
    · omega
  · rcases v with ⟨a', -⟩ | ⟨-, b'⟩
    · omega
    · exact ic_eq.mpr (AM.u u2 b b')
end
section
/-! ===== lessons ahead of a change stand as they were ===== -/
def DE (f : Nat) (d e : gT) : Prop := (∀ k, k ≠ 12 → e k = d k) ∧ ∀ x p, x < f → x < 12 → p ≤ 3 → e 12 (12 * p + x) = d 12 (12 * p + x)
theorem de_put {d : gT} {f q : Nat} {v : Int32} (hf : f < 12) : DE f d (upd2 d 12 (12 * q + f) v) := ⟨fun k hk => funext fun _ => upd2_nk hk, fun x p h1 h2 _ => upd2_nj (by omega)⟩
theorem de_row {d e : gT} {f x : Nat} (h : DE f d e) (h1 : x < f) (h2 : x < 12) : e 12 x = d 12 x ∧ e 12 (12 + x) = d 12 (12 + x) ∧ e 12 (24 + x) = d 12 (24 + x) ∧ e 12 (36 + x) = d 12 (36 + x) := by
  have a := h.2 x 0 h1 h2 (by decide)
  rw [show 12 * 0 + x = x by omega] at a
  exact ⟨a, h.2 x 1 h1 h2 (by decide), h.2 x 2 h1 h2 (by decide), h.2 x 3 h1 h2 (by decide)⟩
theorem de_cmg {d e : gT} {f n i k : Nat} {en : Nat → Int32} (h : DE f d e) (hW : WF n d) (hi : i < n) (i12 : i < 12) (hf : i < f) (hk : k < (d 8 i).toInt.toNat) : cmg e en i k = cmg d en i k := by
  have jl := wf_lt hW hi hk
  have e9 : wf0 e i k = wf0 d i k := by unfold wf0; rw [h.1 9 (by decide)]
  have ri := de_row h hf i12
  have rj := de_row h (show wf0 d i k < f by omega) (by omega)
  unfold cmg
  rw [e9]
  unfold wy
  rw [h.1 0 (by decide), h.1 4 (by decide), ri.2.1, ri.2.2.1, rj.2.2.1]
theorem de_tl {d e : gT} {f i : Nat} {b : Int32} (h : DE f d e) (hf : i < f) (i12 : i < 12) : tl e b i = tl d b i := by
  have ri := de_row h hf i12
  funext j
  match j with
  | 0 => exact ri.1
  | 1 => show b - e 1 i = b - d 1 i; rw [h.1 1 (by decide)]
  | 2 => rfl
  | 3 => exact ri.2.2.1
  | 4 => show e 4 i = d 4 i; rw [h.1 4 (by decide)]
  | 5 => rfl
  | j + 6 => rfl
theorem de_ov {cs : Nat → List Int} {d e : gT} {f i : Nat} {b : Int32} (h : DE f d e) (hf : i < f) (i12 : i < 12) : ov cs e i b = ov cs d i b := by
  have ri := de_row h hf i12
  rw [ov_e, ov_e]
  unfold gv
  rw [h.1 0 (by decide), ri.1, de_tl h hf i12]
theorem de_LB {d e : gT} {f n i : Nat} {en : Nat → Int32} {b y : Int32} (h : DE f d e) (hW : WF n d) (hi : i < n) (i12 : i < 12) (hf : i < f) (hb : LB d en i b y) : LB e en i b y := by
  have ri := de_row h hf i12
  unfold LB
  rw [h.1 5 (by decide), h.1 1 (by decide), h.1 8 (by decide), h.1 6 (by decide), ri.2.2.2]
  rcases hb with a | ⟨a, v, b1, c⟩
  · exact Or.inl a
  · refine Or.inr ⟨a, v, kth_c b1 (fun k hk => by rw [de_cmg h hW hi i12 hf hk]), ?_⟩
    rcases c with c | c | ⟨c1, c2, c3, k, k1, k2, k3, k4⟩
    · exact Or.inl c
    · exact Or.inr (Or.inl c)
    · refine Or.inr (Or.inr ⟨c1, c2, c3, k, ?_, ?_, ?_, fun m hm => ?_⟩)
      · rw [h.1 8 (by decide)]; exact k1
      · rw [h.1 9 (by decide)]; exact k2
      · rw [de_cmg h hW hi i12 hf k1]; exact k3
      · rw [de_cmg h hW hi i12 hf (by omega)]; exact k4 m hm
theorem de_LD {cs : Nat → List Int} {d e : gT} {f n i : Nat} {bg en ru by_ : Nat → Int32} (h : DE f d e) (hW : WF n d) (hi : i < n) (i12 : i < 12) (hf : i < f) (hl : LD cs d bg en ru by_ i) : LD cs e bg en ru by_ i := by
  obtain ⟨a, b, c⟩ := hl
  refine ⟨de_LB h hW hi i12 hf a, by rw [de_ov h hf i12]; exact b, ?_⟩
  rw [h.1 2 (by decide), h.1 3 (by decide)]; exact c
/-- from the changed lesson on is enough -/
theorem rf_dy {cs : Nat → List Int} {d e : gT} {f n : Nat} {g g1 : gT} (h : DE f d e) (hW : WF n d) (hWe : WF n e) (n12 : n ≤ 12) (h0 : DY cs d n (g 43) (g 44) (g 45) (g 46)) (hR : RF cs e f n g g1) : DY cs e n (g1 43) (g1 44) (g1 45) (g1 46) := by
  intro i hi
  by_cases c : f ≤ i
  · exact hR.1 i c hi
  · have hf : i < f := by omega
    have s := fun j (hj : j ≤ i) => hR.2.1 j (by omega)
    exact (de_LD h hW hi (by omega) hf (h0 i hi)).c hWe hi (fun j hj => (s j hj).2.1.symm) (s i (Nat.le_refl _)).1.symm (s i (Nat.le_refl _)).2.2.1.symm (s i (Nat.le_refl _)).2.2.2.symm
end
section
/-! ===== room and limit answer alike ===== -/
def PV (cs : Nat → List Int) (n : Nat) (d : gT) (j : Nat) (r : Int) (v : Int32) : Prop := LV cs n (upd2 d 12 j (Int32.ofInt r)) v
theorem wf_p {n j : Nat} {d : gT} {v : Int32} (hW : WF n d) : WF n (upd2 d 12 j v) := wf_e hW (funext fun _ => upd2_nk (by decide)) (funext fun _ => upd2_nk (by decide)) (funext fun _ => upd2_nk (by decide)) (funext fun _ => upd2_nk (by decide))
theorem PV.f {cs : Nat → List Int} {n j : Nat} {d : gT} (hW : WF n d) : ∀ r v v', PV cs n d j r v → PV cs n d j r v' → v = v' := fun r v v' h h' => LV.u (wf_p hW) h h'
theorem putq_x {q l fu : Nat} {p1 p2 p3 : Int32} {g : gT} {L : lT} (hq : p1.toInt = (q : Int)) (q3 : q ≤ 3) (hl : p2.toInt = (l : Int)) : Pc (fX3_put_6 fu p1 p2 p3 g L) (fun _ g1 _ => g1 = upd2 g (25 + q) l p3) := by
  have el : p2.toNatClampNeg = l := by rw [nc, hl]; omega
  have eq : p1.toInt.toNat = q := by omega
  unfold fX3_put_6
  rw [row_q (by omega) (by omega), cbs, el, eq]
  exact pc_ckr (fun _ _ => pc_ck (fun _ _ => pc_st (fun g1 e => pc_some e)))
theorem put_c {g g' : gT} {k0 l : Nat} {u v : Int32} {k : Nat} (e : g' k = upd2 g k0 l u k) : upd2 g' k0 l v k = upd2 g k0 l v k := by
  by_cases hk : k = k0
  · subst hk
    rw [upd2_k, upd2_k, e, upd2_k]
    funext j
    by_cases hj : j = l
    · rw [hj, upd_at, upd_at]
    · rw [upd_ne hj, upd_ne hj, upd_ne hj]
  · funext j
    rw [upd2_nk hk, e, upd2_nk hk, upd2_nk hk]
theorem lb_x {cs : Nat → List Int} {n q l most fu : Nat} {p1 p2 p3 : Int32} {g d : gT} {L : lT} (h : DC cs n g d) (hq : p1.toInt = (q : Int)) (hm : (q = 2 ∧ most = 9) ∨ (q = 3 ∧ most = 99)) (hl : p2.toInt = (l : Int)) (ln : l < n) : Pc (fX10_leastBy_9 fu p1 p2 p3 g L) (fun x _ _ => ∃ c w, AM (PV cs n d (12 * q + l)) 0 ((most : Int) + 1) c ∧ PV cs n d (12 * q + l) c w ∧ (∀ r, 0 ≤ r → r < (most : Int) + 1 → ∃ w, PV cs n d (12 * q + l) r w) ∧ (p3 = 0 → x.toInt = c) ∧ (¬ p3 = 0 → x = w)) := by
  have hW := h.2.2.2.1
  have n12 := h.1.2
  have q3 : q ≤ 3 := by omega
  have l12' : l < 12 := by omega
  have mo : ∀ fu' g' L', fX11_mostOf fu' p1 g' L' = some (Int32.ofInt (most : Int), (g', L')) := by
    intro fu' g' L'
    unfold fX11_mostOf
    rcases hm with ⟨rfl, rfl⟩ | ⟨rfl, rfl⟩
    · rw [if_neg (by omega), if_neg (by omega), if_pos (by omega)]; rfl
    · rw [if_neg (by omega), if_neg (by omega), if_neg (by omega)]; rfl
  have moi : (Int32.ofInt (most : Int)).toInt = (most : Int) := by
    rcases hm with ⟨-, rfl⟩ | ⟨-, rfl⟩ <;> rfl
  unfold fX10_leastBy_9
  refine pc_cb (P := fun _ g1 _ => g1 = g) (by
    unfold fX3_value_6
    rw [row_q (by omega) (by omega), cbs]
    exact pc_ckr (fun _ _ => pc_ck (fun _ _ => pc_some rfl))) (fun x1 g2 L3 e2 => ?_)
  subst e2
  refine pc_cb (rf_x h (f := 0) rfl (Nat.zero_le _)) (fun _ g6 L7 e6 => pc_cb clear_x (fun _ g10 L11 e10 => ?_))
  unfold fX10_leastBy_9_l29
  have gq : g2 (25 + q) l = d 12 (12 * q + l) := hc_at (h.2.1 l ln).2 q3
  refine pc_loop (fun v => ∃ m : Nat, v.1.toInt = (m : Int) ∧ m ≤ most + 1 ∧ (∃ u : Int32, (∀ k, k ≠ 13 → k ≠ 21 → (k < 43 ∨ 48 < k) → v.2.1 k = upd2 g2 (25 + q) l u k) ∧ DY cs (upd2 d 12 (12 * q + l) u) n (v.2.1 43) (v.2.1 44) (v.2.1 45) (v.2.1 46)) ∧ LK (PV cs n d (12 * q + l)) 0 (m : Int) v.2.1 ∧ ∀ r, 0 ≤ r → r < (m : Int) → ∃ w, PV cs n d (12 * q + l) r w) (fun k29 hk v hv => ?_) ⟨0, rfl, by omega, ⟨d 12 (12 * q + l), fun k a b c => ?_, ?_⟩, Or.inl ⟨rfl, e10.1⟩, fun r a b => by omega⟩
  rotate_left
  · show g10 k = _
    rw [← gq, upd2_s, e10.2 k a, e6.2.2 k b c]
  · show DY cs _ n (g10 43) (g10 44) (g10 45) (g10 46)
    rw [upd2_s, e10.2 43 (by decide), e10.2 44 (by decide), e10.2 45 (by decide), e10.2 46 (by decide)]
    exact fun i hi => e6.1 i (Nat.zero_le _) hi
  obtain ⟨v5, g', L'⟩ := v
  obtain ⟨m, hm5, mm, ⟨u, ek, hy⟩, hk13, ex⟩ := hv
  replace hm5 : v5.toInt = (m : Int) := hm5
  replace ek : ∀ k, k ≠ 13 → k ≠ 21 → (k < 43 ∨ 48 < k) → g' k = upd2 g2 (25 + q) l u k := ek
  replace hy : DY cs (upd2 d 12 (12 * q + l) u) n (g' 43) (g' 44) (g' 45) (g' 46) := hy
  replace hk13 : LK (PV cs n d (12 * q + l)) 0 (m : Int) g' := hk13
  show Pc (fX10_leastBy_9_s29 fu p1 p2 p3 x1 k29 v5 g' L') _
  unfold fX10_leastBy_9_s29
  rw [mo, cbs]
  refine pc_ite (fun c => ?_) (fun c => ?_)
  · have c := icc_lt moi hm5 c
    have em : (m : Int) = (most : Int) + 1 := by omega
    refine pc_cb (putq_x hq q3 hl) (fun _ g19 L20 e19 => ?_)
    have k13 : g19 13 = g' 13 := by rw [e19]; exact funext fun _ => upd2_nk (by omega)
    rw [em] at hk13 ex
    rcases hk13 with ⟨l1, -⟩ | ⟨-, l2, l3, l4⟩
    · omega
    · unfold fX4_told_13 fX4_told_13_p24
      rw [k13, if_neg l2]
      by_cases c0 : p3 = 0
      · rw [if_pos c0, cbs]
        exact pc_some ⟨_, _, l4, l3, ex, fun _ => rfl, fun hh => absurd c0 hh⟩
      · rw [if_neg c0, cbs]
        exact pc_some ⟨_, _, l4, l3, ex, fun hh => absurd hh c0, fun _ => rfl⟩
  · have c := icc_nlt moi hm5 c
    have v5i : Int32.ofInt (m : Int) = v5 := by rw [← hm5]; exact io_i
    refine pc_cb (putq_x hq q3 hl) (fun _ g27 L28 e27 => ?_)
    have f27 : ∀ k, k ≠ 13 → k ≠ 21 → (k < 43 ∨ 48 < k) → g27 k = upd2 g2 (25 + q) l v5 k := fun k a b c => by
      rw [e27]; exact put_c (ek k a b c)
    have o27 : ∀ k, (k < 25 ∨ 28 < k) → g27 k = g' k := fun k hk => by rw [e27]; exact funext fun _ => upd2_nk (by omega)
    have hD : DC cs n g27 (upd2 d 12 (12 * q + l) v5) := (h.put (v := v5) q3 l12' (fun e => by omega)).c2 f27
    have de : DE l (upd2 d 12 (12 * q + l) u) (upd2 d 12 (12 * q + l) v5) := ⟨fun k hk => by funext j; rw [upd2_nk hk, upd2_nk hk], fun x p a b _ => by rw [upd2_nj (by omega), upd2_nj (by omega)]⟩
    refine pc_cb (lf_x hD hl (by omega)) (fun x30 g31 L32 e31 => ?_)
    have dy : DY cs (upd2 d 12 (12 * q + l) v5) n (g31 43) (g31 44) (g31 45) (g31 46) := rf_dy (g := g27) de (wf_p hW) (wf_p hW) n12 (by rw [o27 43 (by omega), o27 44 (by omega), o27 45 (by omega), o27 46 (by omega)]; exact hy) e31.1
    have pm : PV cs n d (12 * q + l) (m : Int) x30 := by
      unfold PV; rw [v5i]
      exact ⟨_, _, _, _, dy, e31.2⟩
    have k13 : g31 13 = g' 13 := by rw [e31.1.2.2 13 (by decide) (by omega), o27 13 (by omega)]
    have hl' : LK (PV cs n d (12 * q + l)) 0 (m : Int) g31 := by unfold LK; rw [k13]; exact hk13
    refine pc_cb (offer_x (PV.f hW) hm5 hl' pm) (fun _ g35 L36 e35 => hk _ ⟨m + 1, ?_, by omega, ⟨v5, fun k a b c => ?_, ?_⟩, ?_, fun r a b => ?_⟩)
    · show (v5 + 1).toInt = _
      rw [ic_addc hm5 (n := 1) rfl (by omega) (by omega)]; omega
    · show g35 k = _
      rw [e35.2 k a, e31.1.2.2 k b c, f27 k a b c]
    · show DY cs _ n (g35 43) (g35 44) (g35 45) (g35 46)
      rw [e35.2 43 (by decide), e35.2 44 (by decide), e35.2 45 (by decide), e35.2 46 (by decide)]
      exact dy
    · show LK _ 0 ((m + 1 : Nat) : Int) g35
      rw [show ((m + 1 : Nat) : Int) = (m : Int) + 1 by omega]; exact e35.1
    · rcases (by omega : r < (m : Int) ∨ r = (m : Int)) with e | e
      · exact ex r a e
      · exact ⟨x30, by rw [e]; exact pm⟩
theorem bo_m {cs : Nat → List Int} {n j most fu : Nat} {p1 p2 p3 : Int32} {d : gT} {L : lT} (hM : MD cs n d) (hj : p1.toInt = (j : Int)) (hm : p2.toInt = (most : Int)) (m99 : most ≤ 99) : Pc (fX12_bestOf fu p1 p2 p3 d L) (fun x g1 _ => g1 0 = d 0 ∧ ∃ c w, AM (PV cs n d j) 0 ((most : Int) + 1) c ∧ PV cs n d j c w ∧ (p3 = 0 → x.toInt = c) ∧ (¬ p3 = 0 → x = w)) := by
  have hW := hM.2.1
  have ej : p1.toNatClampNeg = j := by rw [nc, hj]; omega
  unfold fX12_bestOf
  refine pc_ck (fun _ _ => pc_lti (fun x1 e1 => ?_))
  unfold fX12_bestOf_l17
  refine pc_loop (fun v => ∃ m : Nat, v.2.2.1.toInt = (m : Int) ∧ m ≤ most + 1 ∧ (∃ u : Int32, Em (upd2 d 12 j u) v.2.2.2.1) ∧ ((m = 0 ∧ v.1 = -1) ∨ (0 < m ∧ AM (PV cs n d j) 0 (m : Int) v.1.toInt ∧ PV cs n d j v.1.toInt v.2.1))) (fun k hk v hv => ?_) ⟨0, rfl, by omega, ⟨d 12 j, by rw [upd2_s]; exact fun _ _ => rfl⟩, Or.inl ⟨rfl, rfl⟩⟩
  obtain ⟨v5, v6, v7, g', L'⟩ := v
  obtain ⟨m, hm7, mm, ⟨u, e⟩, hl⟩ := hv
  replace hm7 : v7.toInt = (m : Int) := hm7
  replace e : Em (upd2 d 12 j u) g' := e
  replace hl : (m = 0 ∧ v5 = -1) ∨ (0 < m ∧ AM (PV cs n d j) 0 (m : Int) v5.toInt ∧ PV cs n d j v5.toInt v6) := hl
  show Pc (fX12_bestOf_s17 fu p1 p2 p3 x1 k v5 v6 v7 g' L') _
  unfold fX12_bestOf_s17 fX12_bestOf_p53 fX12_bestOf_p61 fX12_bestOf_p86
  rw [ej]
  have g0 : g' 0 = d 0 := (e 0 (by omega)).trans (funext fun _ => upd2_nk (by decide))
  refine pc_ite (fun c => pc_ck (fun _ _ => pc_st (fun g3 e3 => ?_))) (fun c => ?_)
  · have c := icc_lt hm hm7 c
    have em : (m : Int) = (most : Int) + 1 := by omega
    have z0 : g3 0 = d 0 := by rw [e3, ← g0]; exact funext fun _ => upd2_nk (by decide)
    rw [em] at hl
    rcases hl with ⟨a, -⟩ | ⟨-, a, b⟩
    · omega
    · refine pc_ite (fun c0 => pc_some ⟨z0, _, _, a, b, fun _ => rfl, fun hh => absurd c0 hh⟩) (fun c0 => pc_some ⟨z0, _, _, a, b, fun hh => absurd hh c0, fun _ => rfl⟩)
  · have c := icc_nlt hm hm7 c
    have v7i : Int32.ofInt (m : Int) = v7 := by rw [← hm7]; exact io_i
    have ei : ((m + 1 : Nat) : Int) = (m : Int) + 1 := by omega
    have ew : (v7 + 1).toInt = ((m + 1 : Nat) : Int) := by rw [ic_addc hm7 (n := 1) rfl (by omega) (by omega)]; omega
    refine pc_ck (fun _ _ => pc_st (fun g5 e5 => ?_))
    have e5' : Em (upd2 d 12 j v7) g5 := by
      have := e.put (j := j) (v := v7)
      rw [upd2_2] at this
      rw [e5]; exact this
    have hM5 : MD cs n g5 := (hM.put (j := j) (v := v7)).e e5'
    refine pc_cb (lv_m hM5) (fun x6 g7 L8 e7 => ?_)
    have p6 : PV cs n d j (m : Int) x6 := by unfold PV; rw [v7i]; exact e7.1.e e5'
    have e7' : Em (upd2 d 12 j v7) g7 := fun k hk => (e7.2 k hk).trans (e5' k hk)
    have take : AM (PV cs n d j) 0 ((m : Int) + 1) (m : Int) → Pc (k (v7, x6, (v7 + 1), g7, L8)) (fun x g1 _ => g1 0 = d 0 ∧ ∃ c w, AM (PV cs n d j) 0 ((most : Int) + 1) c ∧ PV cs n d j c w ∧ (p3 = 0 → x.toInt = c) ∧ (¬ p3 = 0 → x = w)) := by
      intro ha
      refine hk _ ⟨m + 1, ew, by omega, ⟨v7, e7'⟩, Or.inr ⟨by omega, ?_, ?_⟩⟩
      · show AM _ 0 ((m + 1 : Nat) : Int) v7.toInt
        rw [ei, hm7]; exact ha
      · show PV cs n d j v7.toInt x6
        rw [hm7]; exact p6
    rcases hl with ⟨a, b⟩ | ⟨a, b, b'⟩
    · rw [if_pos b]
      refine take ?_
      rw [a]; exact AM.one (m := 0) (PV.f hW)
    · rw [if_neg (fun ee => by
        have := b.1
        rw [ee] at this
        exact absurd this (by decide))]
      refine pc_ite (fun c1 => take (b.new (PV.f hW) b' p6 (ic_lt.mp c1))) (fun c1 => hk _ ⟨m + 1, ew, by omega, ⟨v7, e7'⟩, Or.inr ⟨by omega, ?_, b'⟩⟩)
      show AM _ 0 ((m + 1 : Nat) : Int) v5.toInt
      rw [ei]
      exact b.keep (PV.f hW) b' p6 (icc_nlt (m := x6.toInt) (n := v6.toInt) rfl rfl c1)
theorem lb_e {P : Int → Int32 → Prop} {hi : Int} {p3 x y : Int32} (fP : ∀ r v v', P r v → P r v' → v = v') (h1 : ∃ c w, AM P 0 hi c ∧ P c w ∧ (∀ r, 0 ≤ r → r < hi → ∃ w, P r w) ∧ (p3 = 0 → x.toInt = c) ∧ (¬ p3 = 0 → x = w)) (h2 : ∃ c w, AM P 0 hi c ∧ P c w ∧ (p3 = 0 → y.toInt = c) ∧ (¬ p3 = 0 → y = w)) : x = y := by
  obtain ⟨c, w, a1, a2, a3, a4, a5⟩ := h1
  obtain ⟨c', w', b1, b2, b4, b5⟩ := h2
  obtain rfl := AM.u a3 a1 b1
  obtain rfl := fP c w w' a2 b2
  by_cases c0 : p3 = 0
  · exact ic_eq.mpr ((a4 c0).trans (b4 c0).symm)
  · rw [a5 c0, b5 c0]
theorem cr_room {fu : Nat} {p1 p2 : Int32} {g gm g1 g2 : gT} {L Lm L1 L2 : lT} {rx : Except String Int32} {rm : Int32} (h : CR g gm) (e1 : fX11_room_0 fu p1 p2 g L = some (rx, (g1, L1))) (e2 : fX12_room fu p1 p2 gm Lm = some (rm, (g2, L2))) : (rx = .ok rm ∧ g2 0 0 = 0) ∨ (rx = .error NSE ∧ g2 0 0 = 1) := by
  have hp := h.1.1
  have hI := hp.2.1
  obtain ⟨k1, -⟩ := hp.2.2.2.2.2.2.1
  have r1 := hI 0 1 0 12 rfl
  have a0 : upd2 gm 0 0 0 0 0 = 0 := upd2_at
  have a1 : upd2 gm 0 0 0 0 1 = gm 0 1 := rfl
  unfold fX11_room_0 at e1
  unfold fX12_room fX12_room_p36 fX12_room_p37 at e2
  unfold sti at e2
  have e2 : cb (fX12_isLesson fu p1 (upd2 gm 0 0 0) Lm) _ = some (rm, (g2, L2)) := e2
  by_cases c1 : isL (gm 0 1) p1
  rotate_left
  · rw [xneed0 (by rw [k1]; exact c1)] at e1
    have e1 : some (.error NSE, (g, L)) = some (rx, (g1, L1)) := e1
    rw [lesson0 a0 (by rw [a1]; exact c1)] at e2
    have e2 : some ((0 : Int32), (upd2 (upd2 gm 0 0 0) 0 0 1, Lm)) = some (rm, (g2, L2)) := e2
    cases e1; cases e2
    exact Or.inr ⟨rfl, upd2_at⟩
  rw [xneed1 (by rw [k1]; exact c1), cbxs] at e1
  rw [lesson1 a0 (by rw [a1]; exact c1), cbs, if_neg (by decide)] at e2
  have i1 : (1 : Int32).toInt = 1 := rfl
  have i2 : (2 : Int32).toInt = 2 := rfl
  by_cases c2 : 0 ≤ p2.toInt ∧ p2.toInt ≤ (1 : Int32).toInt
  rotate_left
  · rw [xwhat0 (fun hh => c2 (by omega))] at e1
    have e1 : some (.error NSE, (g, L)) = some (rx, (g1, L1)) := e1
    rw [what0 a0 c2] at e2
    have e2 : some ((0 : Int32), (upd2 (upd2 gm 0 0 0) 0 0 1, Lm)) = some (rm, (g2, L2)) := e2
    cases e1; cases e2
    exact Or.inr ⟨rfl, upd2_at⟩
  rw [xwhat1 c2.1 (by omega), cbxs] at e1
  rw [what1 a0 c2.1 c2.2, cbs, if_neg (by decide)] at e2
  have hl := l12 c1 r1.2
  obtain ⟨l, el⟩ : ∃ i : Nat, p1.toInt = (i : Int) := ⟨p1.toInt.toNat, by omega⟩
  have nl : l < (gm 0 1).toInt.toNat := by have := c1.2; omega
  obtain ⟨xa, ga, La, ea, e1⟩ := cb_some e1
  obtain ⟨xb, gb, Lb, eb, e2⟩ := cb_some e2
  cases e1; cases e2
  obtain ⟨cs, hX, hM, -⟩ := dc_all h
  have u := lb_x (q := 2) (most := 9) (hX.d (e0_u (x := 0))) rfl (by omega) el nl _ _ _ ea
  have v := bo_m (j := 12 * 2 + l) (most := 9) (hM.d (e0_u (x := 0))) (by rw [ic_addc (m := 24) rfl el (by omega) (by omega)]; omega) rfl (by decide) _ _ _ eb
  refine Or.inl ⟨?_, by rw [v.1]; exact a0⟩
  rw [lb_e (PV.f (hM.d (e0_u (x := 0))).2.1) u v.2]
theorem cr_limit {fu : Nat} {p1 p2 : Int32} {g gm g1 g2 : gT} {L Lm L1 L2 : lT} {rx : Except String Int32} {rm : Int32} (h : CR g gm) (e1 : fX11_limit_0 fu p1 p2 g L = some (rx, (g1, L1))) (e2 : fX12_limit fu p1 p2 gm Lm = some (rm, (g2, L2))) : (rx = .ok rm ∧ g2 0 0 = 0) ∨ (rx = .error NSE ∧ g2 0 0 = 1) := by
  have hp := h.1.1
  have hI := hp.2.1
  obtain ⟨k1, -⟩ := hp.2.2.2.2.2.2.1
  have r1 := hI 0 1 0 12 rfl
  have a0 : upd2 gm 0 0 0 0 0 = 0 := upd2_at
  have a1 : upd2 gm 0 0 0 0 1 = gm 0 1 := rfl
  unfold fX11_limit_0 at e1
  unfold fX12_limit fX12_limit_p36 fX12_limit_p37 at e2
  unfold sti at e2
  have e2 : cb (fX12_isLesson fu p1 (upd2 gm 0 0 0) Lm) _ = some (rm, (g2, L2)) := e2
  by_cases c1 : isL (gm 0 1) p1
  rotate_left
  · rw [xneed0 (by rw [k1]; exact c1)] at e1
    have e1 : some (.error NSE, (g, L)) = some (rx, (g1, L1)) := e1
    rw [lesson0 a0 (by rw [a1]; exact c1)] at e2
    have e2 : some ((0 : Int32), (upd2 (upd2 gm 0 0 0) 0 0 1, Lm)) = some (rm, (g2, L2)) := e2
    cases e1; cases e2
    exact Or.inr ⟨rfl, upd2_at⟩
  rw [xneed1 (by rw [k1]; exact c1), cbxs] at e1
  rw [lesson1 a0 (by rw [a1]; exact c1), cbs, if_neg (by decide)] at e2
  have i1 : (1 : Int32).toInt = 1 := rfl
  have i2 : (2 : Int32).toInt = 2 := rfl
  by_cases c2 : 0 ≤ p2.toInt ∧ p2.toInt ≤ (1 : Int32).toInt
  rotate_left
  · rw [xwhat0 (fun hh => c2 (by omega))] at e1
    have e1 : some (.error NSE, (g, L)) = some (rx, (g1, L1)) := e1
    rw [what0 a0 c2] at e2
    have e2 : some ((0 : Int32), (upd2 (upd2 gm 0 0 0) 0 0 1, Lm)) = some (rm, (g2, L2)) := e2
    cases e1; cases e2
    exact Or.inr ⟨rfl, upd2_at⟩
  rw [xwhat1 c2.1 (by omega), cbxs] at e1
  rw [what1 a0 c2.1 c2.2, cbs, if_neg (by decide)] at e2
  have hl := l12 c1 r1.2
  obtain ⟨l, el⟩ : ∃ i : Nat, p1.toInt = (i : Int) := ⟨p1.toInt.toNat, by omega⟩
  have nl : l < (gm 0 1).toInt.toNat := by have := c1.2; omega
  obtain ⟨xa, ga, La, ea, e1⟩ := cb_some e1
  obtain ⟨xb, gb, Lb, eb, e2⟩ := cb_some e2
  cases e1; cases e2
  obtain ⟨cs, hX, hM, -⟩ := dc_all h
  have u := lb_x (q := 3) (most := 99) (hX.d (e0_u (x := 0))) rfl (by omega) el nl _ _ _ ea
  have v := bo_m (j := 12 * 3 + l) (most := 99) (hM.d (e0_u (x := 0))) (by rw [ic_addc (m := 36) rfl el (by omega) (by omega)]; omega) rfl (by decide) _ _ _ eb
  refine Or.inl ⟨?_, by rw [v.1]; exact a0⟩
  rw [lb_e (PV.f (hM.d (e0_u (x := 0))).2.1) u v.2]
end
section
/-! ===== the best of what is offered: pair, swap ===== -/
/-- c, losing v, is the best of the offers: least is lost, then the least offer -/
def BO (P : Int → Int32 → Prop) (c : Int) (v : Int32) : Prop := P c v ∧ ∀ r w, P r w → v.toInt ≤ w.toInt ∧ (w.toInt = v.toInt → c ≤ r)
theorem BO.u {P : Int → Int32 → Prop} {c c' : Int} {v v' : Int32} (h : BO P c v) (h' : BO P c' v') : c = c' ∧ v = v' := by
  obtain ⟨a1, a2⟩ := h
  obtain ⟨b1, b2⟩ := h'
  obtain ⟨x1, x2⟩ := a2 c' v' b1
  obtain ⟨y1, y2⟩ := b2 c v a1
  have e : v.toInt = v'.toInt := by omega
  have := x2 e.symm
  have := y2 e
  exact ⟨by omega, ic_eq.mpr e⟩
def Ad (P : Int → Int32 → Prop) (r : Int) (w : Int32) (r' : Int) (w' : Int32) : Prop := P r' w' ∨ (r' = r ∧ w' = w)
theorem bo_first {P : Int → Int32 → Prop} {r : Int} {w : Int32} (h : ∀ r' v, P r' v → w.toInt < v.toInt) : BO (Ad P r w) r w := by
  refine ⟨Or.inr ⟨rfl, rfl⟩, fun r' w' hh => ?_⟩
  rcases hh with hh | ⟨e1, e2⟩
  · have := h r' w' hh
    exact ⟨by omega, fun e => by omega⟩
  · rw [e1, e2]; exact ⟨Int.le_refl _, fun _ => Int.le_refl _⟩
theorem bo_one {P : Int → Int32 → Prop} {r : Int} {w : Int32} (h : ∀ r v, ¬ P r v) : BO (Ad P r w) r w := bo_first (fun r' v hh => absurd hh (h r' v))
theorem bo_new {P : Int → Int32 → Prop} {c r : Int} {v w : Int32} (h : BO P c v) (hlt : w.toInt < v.toInt ∨ (w.toInt = v.toInt ∧ r ≤ c)) : BO (Ad P r w) r w := by
  obtain ⟨a1, a2⟩ := h
  refine ⟨Or.inr ⟨rfl, rfl⟩, fun r' w' hh => ?_⟩
  rcases hh with hh | ⟨e1, e2⟩
  · obtain ⟨b1, b2⟩ := a2 r' w' hh
    refine ⟨by omega, fun e => ?_⟩
    have := b2 (by omega)
    omega
  · rw [e1, e2]; exact ⟨Int.le_refl _, fun _ => Int.le_refl _⟩
theorem bo_keep {P : Int → Int32 → Prop} {c r : Int} {v w : Int32} (h : BO P c v) (hle : v.toInt < w.toInt ∨ (w.toInt = v.toInt ∧ c ≤ r)) : BO (Ad P r w) c v := by
  obtain ⟨a1, a2⟩ := h
  refine ⟨Or.inl a1, fun r' w' hh => ?_⟩
  rcases hh with hh | ⟨e1, e2⟩
  · exact a2 r' w' hh
  · rw [e1, e2]; exact ⟨by omega, fun e => by omega⟩
theorem of_iff {P P' : Int → Int32 → Prop} (h : ∀ r v, P r v ↔ P' r v) : P = P' := funext fun r => funext fun v => propext (h r v)
/-- what the class's Least holds of the offers -/
def LO (P : Int → Int32 → Prop) (g : gT) : Prop := (g 13 0 = 0 ∧ ∀ r v, ¬ P r v) ∨ (¬ g 13 0 = 0 ∧ BO P (g 13 1).toInt (g 13 2))
theorem LO.c {P P' : Int → Int32 → Prop} {g g' : gT} (h : LO P g) (e : g' 13 = g 13) (hp : ∀ r v, P r v ↔ P' r v) : LO P' g' := by
  unfold LO
  rw [e, ← of_iff hp]; exact h
theorem offer_o {P : Int → Int32 → Prop} {fu : Nat} {r : Int} {p1 p2 : Int32} {g : gT} {L : lT} (hr : p1.toInt = r) (h : LO P g) : Pc (fX4_offer_13 fu p1 p2 g L) (fun _ g1 _ => LO (Ad P r p2) g1 ∧ ∀ k, k ≠ 13 → g1 k = g k) := by
  unfold fX4_offer_13 fX4_offer_13_p31 fX4_offer_13_p46
  have take : BO (Ad P r p2) r p2 → Pc (sti g 13 0 1 (fun g1 => sti g1 13 1 p1 (fun g2 => sti g2 13 2 p2 (fun g3 => some ((), ((g3, L) : zS)))))) (fun _ g1 _ => LO (Ad P r p2) g1 ∧ ∀ k, k ≠ 13 → g1 k = g k) := by
    intro ha
    refine pc_st (fun g1 e1 => pc_st (fun g2 e2 => pc_st (fun g3 e3 => pc_some ⟨Or.inr ?_, fun k hk => ?_⟩)))
    · have z0 : g3 13 0 = 1 := by rw [e3, upd2_nj (by decide), e2, upd2_nj (by decide), e1, upd2_at]
      have z1 : g3 13 1 = p1 := by rw [e3, upd2_nj (by decide), e2, upd2_at]
      have z2 : g3 13 2 = p2 := by rw [e3, upd2_at]
      rw [z0, z1, z2, hr]
      exact ⟨by decide, ha⟩
    · rw [e3, e2, e1]
      exact funext fun _ => by rw [upd2_nk hk, upd2_nk hk, upd2_nk hk]
  have stay : BO (Ad P r p2) (g 13 1).toInt (g 13 2) → ¬ g 13 0 = 0 → Pc (some ((), ((g, L) : zS))) (fun _ g1 _ => LO (Ad P r p2) g1 ∧ ∀ k, k ≠ 13 → g1 k = g k) := fun ha h2 => pc_some ⟨Or.inr ⟨h2, ha⟩, fun _ _ => rfl⟩
  rcases h with ⟨h1, h2⟩ | ⟨h1, h2⟩
  · rw [if_pos h1]
    exact take (bo_one h2)
  · rw [if_neg h1]
    refine pc_ite (fun c => take (bo_new h2 (Or.inl (ic_lt.mp c)))) (fun c => pc_ite (fun c1 => pc_ite (fun c2 => stay (bo_keep h2 (Or.inr ⟨by rw [c1], icc_le (m := (g 13 1).toInt) rfl hr c2⟩)) h1) (fun c2 => take (bo_new h2 (Or.inr ⟨by rw [c1], Int.le_of_lt (icc_nle (m := (g 13 1).toInt) rfl hr c2)⟩)))) (fun c1 => stay (bo_keep h2 (Or.inl ?_)) h1))
    have x := icc_nlt (m := p2.toInt) (n := (g 13 2).toInt) rfl rfl c
    have y := icc_neq (m := p2.toInt) (n := (g 13 2).toInt) rfl rfl c1
    omega
/-- what is told of the offers -/
def TO (P : Int → Int32 → Prop) (p1 x : Int32) : Prop := ((∀ r v, ¬ P r v) ∧ x = -1) ∨ ∃ c v, BO P c v ∧ (p1 = 0 → x.toInt = c) ∧ (¬ p1 = 0 → x = v)
theorem TO.u {P : Int → Int32 → Prop} {p1 x y : Int32} (h : TO P p1 x) (h' : TO P p1 y) : x = y := by
  rcases h with ⟨a, b⟩ | ⟨c, v, a, b1, b2⟩
  · rcases h' with ⟨-, b'⟩ | ⟨c', v', a', -⟩
    · rw [b, b']
    · exact absurd a'.1 (a _ _)
  · rcases h' with ⟨a', -⟩ | ⟨c', v', a', d1, d2⟩
    · exact absurd a.1 (a' _ _)
    · obtain ⟨e1, e2⟩ := BO.u a a'
      by_cases c0 : p1 = 0
      · exact ic_eq.mpr (by rw [b1 c0, d1 c0, e1])
      · rw [b2 c0, d2 c0, e2]
theorem told_o {P : Int → Int32 → Prop} {fu : Nat} {p1 : Int32} {g : gT} {L : lT} (h : LO P g) : Pc (fX4_told_13 fu p1 g L) (fun x g1 _ => g1 = g ∧ TO P p1 x) := by
  unfold fX4_told_13 fX4_told_13_p24
  rcases h with ⟨a, b⟩ | ⟨a, b⟩
  · rw [if_pos a]
    exact pc_some ⟨rfl, Or.inl ⟨b, rfl⟩⟩
  · rw [if_neg a]
    exact pc_ite (fun c => pc_some ⟨rfl, Or.inr ⟨_, _, b, fun _ => rfl, fun hh => absurd c hh⟩⟩) (fun c => pc_some ⟨rfl, Or.inr ⟨_, _, b, fun hh => absurd hh c, fun _ => rfl⟩⟩)
/-- what the reference holds of the offers -/
def MO (P : Int → Int32 → Prop) (b f : Int32) : Prop := (b = -1 ∧ ∀ r v, ¬ P r v) ∨ (¬ b = -1 ∧ BO P b.toInt f)
theorem MO.c {P P' : Int → Int32 → Prop} {b f : Int32} (h : MO P b f) (hp : ∀ r v, P r v ↔ P' r v) : MO P' b f := by
  rw [← of_iff hp]; exact h
theorem mo_new {P : Int → Int32 → Prop} {r : Int} {k x : Int32} (hk : k.toInt = r) (r0 : 0 ≤ r) (h : BO (Ad P r x) r x) : MO (Ad P r x) k x := by
  refine Or.inr ⟨fun e => ?_, by rw [hk]; exact h⟩
  rw [e] at hk
  have : (-1 : Int32).toInt = -1 := rfl
  omega
/-- pairs a < b < n, in their order, up to (a, b) -/
def PP (F : Nat → Nat → Int32 → Prop) (n a b : Nat) (r : Int) (v : Int32) : Prop := ∃ a' b' : Nat, a' < b' ∧ b' < n ∧ (a' < a ∨ (a' = a ∧ b' < b)) ∧ r = 100 * (a' : Int) + (b' : Int) ∧ F a' b' v
section PPS
variable {F : Nat → Nat → Int32 → Prop} {n a b : Nat} {r : Int} {v : Int32}
theorem pp_0 : ¬ PP F n 0 0 r v := by
  intro ⟨a', b', _, _, h, _⟩
  omega
theorem pp_in : PP F n a 0 r v ↔ PP F n a (a + 1) r v := by
  constructor
  · intro ⟨a', b', h1, h2, h3, h4⟩; exact ⟨a', b', h1, h2, by omega, h4⟩
  · intro ⟨a', b', h1, h2, h3, h4⟩; exact ⟨a', b', h1, h2, by omega, h4⟩
theorem pp_out : PP F n a n r v ↔ PP F n (a + 1) 0 r v := by
  constructor
  · intro ⟨a', b', h1, h2, h3, h4⟩; exact ⟨a', b', h1, h2, by omega, h4⟩
  · intro ⟨a', b', h1, h2, h3, h4⟩; exact ⟨a', b', h1, h2, by omega, h4⟩
theorem pp_s {x : Int32} (fF : ∀ v, F a b v → v = x) (hx : F a b x) (ab : a < b) (bn : b < n) : ∀ r v, Ad (PP F n a b) (100 * (a : Int) + (b : Int)) x r v ↔ PP F n a (b + 1) r v := by
  intro r v
  constructor
  · intro hh
    rcases hh with ⟨a', b', h1, h2, h3, h4⟩ | ⟨h1, h2⟩
    · exact ⟨a', b', h1, h2, by omega, h4⟩
    · exact ⟨a, b, ab, bn, by omega, h1, by rw [h2]; exact hx⟩
  · intro ⟨a', b', h1, h2, h3, h4, h5⟩
    by_cases e : a' = a ∧ b' = b
    · obtain ⟨e1, e2⟩ := e
      rw [e1, e2] at h4 h5
      exact Or.inr ⟨h4, fF v h5⟩
    · exact Or.inl ⟨a', b', h1, h2, by omega, h4, h5⟩
theorem pp_lt (n12 : n ≤ 12) (h : PP F n a b r v) : r < 100 * (a : Int) + (b : Int) := by
  obtain ⟨a', b', h1, h2, h3, h4, -⟩ := h
  omega
end PPS
theorem Td_q {d g : gT} (h : ∀ k, k < 29 → g k = d k) : Td g = Td d := by
  funext k
  by_cases hk : k < 29
  · rw [Td_k hk, Td_k hk, h k hk]
  · unfold Td; rw [if_neg hk, if_neg hk]
theorem LV.t {cs : Nat → List Int} {n : Nat} {d g : gT} {v : Int32} (h : ∀ k, k < 29 → g k = d k) (hv : LV cs n g v) : LV cs n d v := by
  obtain ⟨bg, en, ru, by_, h1, h2⟩ := hv
  rw [← DY_T, Td_q h, DY_T] at h1
  rw [← fLost_T, Td_q h, fLost_T] at h2
  exact ⟨bg, en, ru, by_, h1, h2⟩
theorem MD.t {cs : Nat → List Int} {n : Nat} {d g : gT} (h : MD cs n d) (e : ∀ k, k < 29 → g k = d k) : MD cs n g := by
  unfold MD WF
  rw [e 0 (by omega), e 5 (by omega), e 6 (by omega), e 8 (by omega), e 9 (by omega), e 10 (by omega), e 11 (by omega)]
  exact h
theorem low_put {d g : gT} {j : Nat} {v : Int32} (e : ∀ k, k < 29 → g k = d k) : ∀ k, k < 29 → upd2 g 12 j v k = upd2 d 12 j v k := by
  intro k hk
  by_cases h : k = 12
  · subst h; rw [upd2_k, upd2_k, e 12 hk]
  · funext i; rw [upd2_nk h, upd2_nk h, e k hk]
theorem cpd_hi {g : gT} {a b n j : Nat} (h : ¬ j < n) : cpd g a b n b j = g b j := by
  unfold cpd
  rw [updA_at]; exact if_neg h
/-- what is lost without two -/
def F2 (cs : Nat → List Int) (n : Nat) (d : gT) (a b : Nat) (v : Int32) : Prop := LV cs n (upd2 (upd2 d 12 a 0) 12 b 0) v
theorem pair_x {cs : Nat → List Int} {n fu : Nat} {p1 : Int32} {g d : gT} {L : lT} (h : DC cs n g d) : Pc (fX10_withoutTwo_9 fu p1 g L) (fun x _ _ => TO (PP (F2 cs n d) n n 0) p1 x) := by
  unfold fX10_withoutTwo_9
  refine pc_cb clear_x (fun x1 g2 L3 e2 => ?_)
  unfold fX10_withoutTwo_9_l9
  have hW := h.2.2.2.1
  have hn := h.1
  have n12 := h.1.2
  refine pc_loop (fun v => ∃ a : Nat, v.1.toInt = (a : Int) ∧ a ≤ n ∧ (∀ k, k ≠ 13 → k ≠ 21 → (k < 43 ∨ 48 < k) → v.2.1 k = g k) ∧ LO (PP (F2 cs n d) n a 0) v.2.1) (fun k9 hk v hv => ?_) ⟨0, rfl, by omega, fun k a _ _ => e2.2 k a, Or.inl ⟨e2.1, fun _ _ => pp_0⟩⟩
  obtain ⟨v2, g', L'⟩ := v
  obtain ⟨a, ha, an, ek, hl⟩ := hv
  replace ha : v2.toInt = (a : Int) := ha
  replace ek : ∀ k, k ≠ 13 → k ≠ 21 → (k < 43 ∨ 48 < k) → g' k = g k := ek
  replace hl : LO (PP (F2 cs n d) n a 0) g' := hl
  show Pc (fX10_withoutTwo_9_s9 fu p1 k9 v2 g' L') _
  unfold fX10_withoutTwo_9_s9 fX10_lessonCount_9
  rw [ek 1 (by decide) (by decide) (by omega), cbs]
  refine pc_ite (fun c => ?_) (fun c => ?_)
  · have c := icc_le hn.1 ha c
    have em : a = n := by omega
    rw [em] at hl
    exact pc_cb (told_o hl) (fun x g1 L1 e => pc_some e.2)
  · have c := icc_nle hn.1 ha c
    refine pc_lti (fun x14 e14 => ?_)
    have h14 : x14.toInt = ((a + 1 : Nat) : Int) := by rw [e14, ic_addc ha (n := 1) rfl (by omega) (by omega)]; omega
    unfold fX10_withoutTwo_9_l21
    refine pc_loop (fun v => ∃ b : Nat, v.1.toInt = (b : Int) ∧ a < b ∧ b ≤ n ∧ (∀ k, k ≠ 13 → k ≠ 21 → (k < 43 ∨ 48 < k) → v.2.1 k = g k) ∧ LO (PP (F2 cs n d) n a b) v.2.1) (fun k21 hk2 v hv => ?_) ⟨a + 1, h14, by omega, by omega, ek, hl.c rfl (fun _ _ => pp_in)⟩
    obtain ⟨v3, g4, L4⟩ := v
    obtain ⟨b, hb, ab, bn, ek, hl⟩ := hv
    replace hb : v3.toInt = (b : Int) := hb
    replace ek : ∀ k, k ≠ 13 → k ≠ 21 → (k < 43 ∨ 48 < k) → g4 k = g k := ek
    replace hl : LO (PP (F2 cs n d) n a b) g4 := hl
    show Pc (fX10_withoutTwo_9_s21 fu k9 p1 v2 k21 v3 g4 L4) _
    unfold fX10_withoutTwo_9_s21 fX10_lessonCount_9
    rw [ek 1 (by decide) (by decide) (by omega), cbs]
    refine pc_ite (fun c => ?_) (fun c => ?_)
    · have c := icc_le hn.1 hb c
      have em : b = n := by omega
      rw [em] at hl
      refine hk _ ⟨a + 1, ?_, by omega, ek, hl.c rfl (fun _ _ => pp_out)⟩
      show (v2 + 1).toInt = _
      rw [ic_addc ha (n := 1) rfl (by omega) (by omega)]; omega
    · have c := icc_nle hn.1 hb c
      refine pc_cb (lw_x (h.c2 ek) ha hb (by omega) (by omega)) (fun x20 g21 L22 e20 => ?_)
      have hl' : LO (PP (F2 cs n d) n a b) g21 := hl.c (e20.2 13 (by decide) (by omega)) (fun _ _ => Iff.rfl)
      have k1 : (100 * v2 + v3).toInt = 100 * (a : Int) + (b : Int) := ic_addc (ic_mulc (m := 100) rfl ha (by omega) (by omega)) hb (by omega) (by omega)
      refine pc_cb (offer_o k1 hl') (fun x24 g25 L26 e25 => hk2 _ ⟨b + 1, ?_, by omega, by omega, fun k x y z => ?_, ?_⟩)
      · show (v3 + 1).toInt = _
        rw [ic_addc hb (n := 1) rfl (by omega) (by omega)]; omega
      · show g25 k = g k
        rw [e25.2 k x, e20.2 k y z, ek k x y z]
      · exact e25.1.c rfl (pp_s (fun v hv => LV.u (wf_p (wf_p hW)) hv e20.1) e20.1 ab (by omega))
theorem pair_m {cs : Nat → List Int} {n fu : Nat} (hfu : 1180591620717411303424 ≤ fu) {p1 : Int32} {g d : gT} {L : lT} (hM : MD cs n d) (e : ∀ k, k < 29 → g k = d k) (e42 : ∀ j, j < 48 → g 42 j = d 12 j) : Pc (fX12_pair_l35 fu p1 (-1) 0 0 g L) (fun x g1 _ => g1 0 = d 0 ∧ TO (PP (F2 cs n d) n n 0) p1 x) := by
  unfold fX12_pair_l35
  have hW := hM.2.1
  have n12 := hM.1.2
  refine pc_loop (fun v => ∃ a : Nat, v.2.2.1.toInt = (a : Int) ∧ a ≤ n ∧ (∀ k, k < 29 → v.2.2.2.1 k = d k) ∧ (∀ j, j < 48 → v.2.2.2.1 42 j = d 12 j) ∧ MO (PP (F2 cs n d) n a 0) v.1 v.2.1) (fun k35 hk v hv => ?_) ⟨0, rfl, by omega, e, e42, Or.inl ⟨rfl, fun _ _ => pp_0⟩⟩
  obtain ⟨v2, v3, v4, g', L'⟩ := v
  obtain ⟨a, ha, an, e, e42, hl⟩ := hv
  replace ha : v4.toInt = (a : Int) := ha
  replace e : ∀ k, k < 29 → g' k = d k := e
  replace e42 : ∀ j, j < 48 → g' 42 j = d 12 j := e42
  replace hl : MO (PP (F2 cs n d) n a 0) v2 v3 := hl
  show Pc (fX12_pair_s35 fu p1 k35 v2 v3 v4 g' L') _
  unfold fX12_pair_s35 fX12_pair_p144 fX12_pair_p149
  have e01 : (g' 0 1).toInt = (n : Int) := by rw [e 0 (by omega)]; exact hM.1.1
  refine pc_ite (fun c => ?_) (fun c => ?_)
  · have c := icc_le e01 ha c
    have em : a = n := by omega
    rw [em] at hl
    rcases hl with ⟨l1, l2⟩ | ⟨l1, l2⟩
    · rw [if_pos l1]
      exact pc_some ⟨e 0 (by omega), Or.inl ⟨l2, l1⟩⟩
    · rw [if_neg l1]
      exact pc_ite (fun c => pc_some ⟨e 0 (by omega), Or.inr ⟨_, _, l2, fun _ => rfl, fun hh => absurd c hh⟩⟩) (fun c => pc_some ⟨e 0 (by omega), Or.inr ⟨_, _, l2, fun hh => absurd hh c, fun _ => rfl⟩⟩)
  · have c := icc_nle e01 ha c
    refine pc_lti (fun x14 e14 => ?_)
    have h14 : x14.toInt = ((a + 1 : Nat) : Int) := by rw [e14, ic_addc ha (n := 1) rfl (by omega) (by omega)]; omega
    unfold fX12_pair_l50
    refine pc_loop (fun v => ∃ b : Nat, v.2.2.1.toInt = (b : Int) ∧ a < b ∧ b ≤ n ∧ (∀ k, k < 29 → v.2.2.2.1 k = d k) ∧ (∀ j, j < 48 → v.2.2.2.1 42 j = d 12 j) ∧ MO (PP (F2 cs n d) n a b) v.1 v.2.1) (fun k50 hk2 v hv => ?_) ⟨a + 1, h14, by omega, by omega, e, e42, hl.c (fun _ _ => pp_in)⟩
    obtain ⟨w2, w3, v5, g4, L4⟩ := v
    obtain ⟨b, hb, ab, bn, e, e42, hl⟩ := hv
    replace hb : v5.toInt = (b : Int) := hb
    replace e : ∀ k, k < 29 → g4 k = d k := e
    replace e42 : ∀ j, j < 48 → g4 42 j = d 12 j := e42
    replace hl : MO (PP (F2 cs n d) n a b) w2 w3 := hl
    show Pc (fX12_pair_s50 fu k35 p1 v4 k50 w2 w3 v5 g4 L4) _
    unfold fX12_pair_s50 fX12_pair_p111 fX12_pair_p123
    have e01 : (g4 0 1).toInt = (n : Int) := by rw [e 0 (by omega)]; exact hM.1.1
    refine pc_ite (fun c => ?_) (fun c => ?_)
    · have c := icc_le e01 hb c
      have em : b = n := by omega
      rw [em] at hl
      refine hk _ ⟨a + 1, ?_, by omega, e, e42, hl.c (fun _ _ => pp_out)⟩
      show (v4 + 1).toInt = _
      rw [ic_addc ha (n := 1) rfl (by omega) (by omega)]; omega
    · have c := icc_nle e01 hb c
      have ea : (0 + v4).toNatClampNeg = a := by rw [nc, ic_addc (m := 0) rfl ha (by omega) (by omega)]; omega
      have eb : (0 + v5).toNatClampNeg = b := by rw [nc, ic_addc (m := 0) rfl hb (by omega) (by omega)]; omega
      rw [ea, eb]
      refine pc_ck (fun _ _ => pc_st (fun g16 e16 => pc_ck (fun _ _ => pc_st (fun g17 e17 => ?_))))
      have q17 : ∀ k, k < 29 → g17 k = upd2 (upd2 d 12 a 0) 12 b 0 k := by rw [e17, e16]; exact low_put (low_put e)
      refine pc_cb (lv_m (cs := cs) (n := n) ((MD.put (MD.put hM)).t q17)) (fun x18 g19 L20 e18 => pc_cb (pc_ex (uX12_copies_42_12 fu hfu _ _)) (fun x22 g23 L24 e23 => ?_))
      have p18 : F2 cs n d a b x18 := e18.1.t q17
      have o17 : ∀ k, k ≠ 12 → g17 k = g4 k := fun k hk => by rw [e17, e16]; exact funext fun _ => by rw [upd2_nk hk, upd2_nk hk]
      have r23 : ∀ k, k < 29 → g23 k = d k := by
        intro k hk
        by_cases h12 : k = 12
        · subst h12
          funext j
          by_cases hj : j < 48
          · rw [e23, cpd_at hj, e18.2 42 (by omega), o17 42 (by decide)]; exact e42 j hj
          · rw [e23, cpd_hi hj, e18.2 12 (by omega), q17 12 (by omega), upd2_nj (by omega), upd2_nj (by omega)]
        · rw [e23, cpd_ne h12, e18.2 k (by omega), o17 k h12, e k hk]
      have r42 : ∀ j, j < 48 → g23 42 j = d 12 j := fun j hj => by rw [e23, cpd_ne (by decide), e18.2 42 (by omega), o17 42 (by decide)]; exact e42 j hj
      have k1 : (100 * v4 + v5).toInt = 100 * (a : Int) + (b : Int) := ic_addc (ic_mulc (m := 100) rfl ha (by omega) (by omega)) hb (by omega) (by omega)
      have es : ∀ r v, Ad (PP (F2 cs n d) n a b) (100 * (a : Int) + (b : Int)) x18 r v ↔ PP (F2 cs n d) n a (b + 1) r v := pp_s (fun v hv => LV.u (wf_p (wf_p hW)) hv p18) p18 ab (by omega)
      have ew : (v5 + 1).toInt = ((b + 1 : Nat) : Int) := by rw [ic_addc hb (n := 1) rfl (by omega) (by omega)]; omega
      have take : BO (Ad (PP (F2 cs n d) n a b) (100 * (a : Int) + (b : Int)) x18) (100 * (a : Int) + (b : Int)) x18 → Pc (lti ((100 * v4) + v5) (fun x26 => k50 (x26, x18, (v5 + 1), g23, L24))) (fun x g1 _ => g1 0 = d 0 ∧ TO (PP (F2 cs n d) n n 0) p1 x) := fun hh => pc_lti (fun x26 e26 => hk2 _ ⟨b + 1, ew, by omega, by omega, r23, r42, (mo_new (by rw [e26]; exact k1) (by omega) hh).c es⟩)
      rcases hl with ⟨l1, l2⟩ | ⟨l1, l2⟩
      · rw [if_pos l1]
        exact take (bo_one l2)
      · rw [if_neg l1]
        refine pc_ite (fun c1 => take (bo_new l2 (Or.inl (ic_lt.mp c1)))) (fun c1 => hk2 _ ⟨b + 1, ew, by omega, by omega, r23, r42, MO.c (Or.inr ⟨l1, bo_keep l2 ?_⟩) es⟩)
        have c1 := icc_nlt (m := x18.toInt) (n := w3.toInt) rfl rfl c1
        have := pp_lt n12 l2.1
        have key : w3.toInt < x18.toInt ∨ (x18.toInt = w3.toInt ∧ w2.toInt ≤ 100 * (a : Int) + (b : Int)) := by omega
        exact key
theorem cr_pair {fu : Nat} (hfu : 1180591620717411303424 ≤ fu) {p1 : Int32} {g gm g1 g2 : gT} {L Lm L1 L2 : lT} {rx : Except String Int32} {rm : Int32} (h : CR g gm) (e1 : fX11_pair_0 fu p1 g L = some (rx, (g1, L1))) (e2 : fX12_pair fu p1 gm Lm = some (rm, (g2, L2))) : (rx = .ok rm ∧ g2 0 0 = 0) ∨ (rx = .error NSE ∧ g2 0 0 = 1) := by
  have a0 : upd2 gm 0 0 0 0 0 = 0 := upd2_at
  unfold fX11_pair_0 at e1
  unfold fX12_pair at e2
  unfold sti at e2
  have e2 : cb (fX12_isWhat fu p1 1 (upd2 gm 0 0 0) Lm) _ = some (rm, (g2, L2)) := e2
  have i1 : (1 : Int32).toInt = 1 := rfl
  have i2 : (2 : Int32).toInt = 2 := rfl
  by_cases c2 : 0 ≤ p1.toInt ∧ p1.toInt ≤ (1 : Int32).toInt
  rotate_left
  · rw [xwhat0 (fun hh => c2 (by omega))] at e1
    have e1 : some (.error NSE, (g, L)) = some (rx, (g1, L1)) := e1
    rw [what0 a0 c2] at e2
    have e2 : some ((0 : Int32), (upd2 (upd2 gm 0 0 0) 0 0 1, Lm)) = some (rm, (g2, L2)) := e2
    cases e1; cases e2
    exact Or.inr ⟨rfl, upd2_at⟩
  rw [xwhat1 c2.1 (by omega), cbxs] at e1
  rw [what1 a0 c2.1 c2.2, cbs, if_neg (by decide)] at e2
  obtain ⟨xa, ga, La, ea, e1⟩ := cb_some e1
  obtain ⟨xb, gb, Lb, eb, e2⟩ := cb_some e2
  cases e1
  obtain ⟨cs, hX, hM, -⟩ := dc_all h
  have hb := pc_ex (uX12_copies_12_42 fu hfu _ _) _ _ _ eb
  have u := pair_x (hX.d (e0_u (x := 0))) _ _ _ ea
  have v := pair_m hfu (hM.d (e0_u (x := 0))) (fun k hk => by rw [hb, cpd_ne (by omega)]) (fun j hj => by rw [hb, cpd_at hj]) _ _ _ e2
  exact Or.inl ⟨by rw [TO.u u v.2], by rw [v.1]; exact a0⟩
end
section
/-! ===== what holds of the reference: the numbers of a plan, limits, sightings ===== -/
def VP (g : gT) : Prop := (∀ i : Nat, (i : Int) < (g 0 1).toInt → (0 ≤ (g 1 i).toInt ∧ (g 1 i).toInt < (g 2 i).toInt ∧ (g 2 i).toInt ≤ 999) ∧ (1 ≤ (g 3 i).toInt ∧ (g 3 i).toInt ≤ 200) ∧ (1 ≤ (g 4 i).toInt ∧ (g 4 i).toInt ≤ 99) ∧ (0 ≤ (g 7 i).toInt ∧ (g 7 i).toInt ≤ 10)) ∧ 0 ≤ (g 0 3).toInt ∧ (g 0 3).toInt ≤ 9
def LW (c : Nat) (g : gT) : Prop := ∀ i : Nat, (i : Int) < (g 0 1).toInt → 0 ≤ (g c (36 + i)).toInt ∧ (g c (36 + i)).toInt ≤ 99
def AL (m : Int) (c : Nat) (g : gT) : Prop := ∀ k : Nat, (k : Int) < m → 36 ≤ (g c (2 * k)).toInt → (g c (2 * k)).toInt ≤ 47 → 0 ≤ (g c (2 * k + 1)).toInt ∧ (g c (2 * k + 1)).toInt ≤ 99
def SN (m : Int) (c : Nat) (g : gT) : Prop := ∀ k : Nat, (k : Int) < m → 0 ≤ (g c (2 * k)).toInt ∧ (g c (2 * k)).toInt < (g 0 1).toInt
def VH (g : gT) : Prop := LW 12 g ∧ AL (g 0 62).toInt 36 g ∧ SN (g 0 73).toInt 43 g
def VM (g : gT) : Prop := LW 48 g ∧ AL (g 0 83).toInt 49 g ∧ SN (g 0 84).toInt 50 g
def VI (g : gT) : Prop := VP g ∧ VH g ∧ (¬ g 0 81 = 0 → VM g)
theorem vp_c {g g2 : gT} (h : VP g) (e1 : g2 1 = g 1) (e2 : g2 2 = g 2) (e3 : g2 3 = g 3) (e4 : g2 4 = g 4) (e7 : g2 7 = g 7) (f1 : g2 0 1 = g 0 1) (f3 : g2 0 3 = g 0 3) : VP g2 := by
  unfold VP
  rw [e1, e2, e3, e4, e7, f1, f3]; exact h
theorem vm_c {g g2 : gT} (h : VM g) (e48 : g2 48 = g 48) (e49 : g2 49 = g 49) (e50 : g2 50 = g 50) (f1 : g2 0 1 = g 0 1) (f83 : g2 0 83 = g 0 83) (f84 : g2 0 84 = g 0 84) : VM g2 := by
  unfold VM LW AL SN
  rw [e48, e49, e50, f1, f83, f84]; exact h
/-- the fields and cells that count stand as they were -/
theorem vi_c {g g2 : gT} (h : VI g) (e1 : g2 1 = g 1) (e2 : g2 2 = g 2) (e3 : g2 3 = g 3) (e4 : g2 4 = g 4) (e7 : g2 7 = g 7) (e12 : ∀ i : Nat, (i : Int) < (g 0 1).toInt → g2 12 (36 + i) = g 12 (36 + i)) (e36 : g2 36 = g 36) (e43 : g2 43 = g 43) (e48 : g2 48 = g 48) (e49 : g2 49 = g 49) (e50 : g2 50 = g 50) (f1 : g2 0 1 = g 0 1) (f3 : g2 0 3 = g 0 3) (f62 : g2 0 62 = g 0 62) (f73 : g2 0 73 = g 0 73) (f81 : g2 0 81 = g 0 81) (f83 : g2 0 83 = g 0 83) (f84 : g2 0 84 = g 0 84) : VI g2 := by
  obtain ⟨h1, ⟨h2, h3, h4⟩, h5⟩ := h
  refine ⟨vp_c h1 e1 e2 e3 e4 e7 f1 f3, ⟨fun i hi => ?_, ?_, ?_⟩, fun c => ?_⟩
  · rw [f1] at hi
    rw [e12 i hi]; exact h2 i hi
  · unfold AL; rw [f62, e36]; exact h3
  · unfold SN; rw [f1, f73, e43]; exact h4
  · rw [f81] at c
    exact vm_c (h5 c) e48 e49 e50 f1 f83 f84
abbrev viC : List Nat := [3, 4, 7, 36, 43, 48, 49, 50]
abbrev viF : List (Nat × Nat) := [(0, 1), (0, 3), (0, 62), (0, 73), (0, 81), (0, 83), (0, 84)]
theorem vi_fr {A : List (Nat × Nat)} {B : List Nat} {g g2 : gT} (h : VI g) (f : FW A B g g2) (o : okw (1 :: 2 :: 12 :: viC) viF A B = true) : VI g2 :=
  vi_c h (okw_c o f (by decide)) (okw_c o f (by decide)) (okw_c o f (by decide)) (okw_c o f (by decide)) (okw_c o f (by decide)) (fun i _ => by rw [okw_c (k := 12) o f (by decide)]) (okw_c o f (by decide)) (okw_c o f (by decide)) (okw_c o f (by decide)) (okw_c o f (by decide)) (okw_c o f (by decide)) (okw_f o f (by decide)) (okw_f o f (by decide)) (okw_f o f (by decide)) (okw_f o f (by decide)) (okw_f o f (by decide)) (okw_f o f (by decide)) (okw_f o f (by decide))
theorem vi_rs {A : List (Nat × Nat)} {B : List Nat} {g g2 : gT} (hI : zI MT g) (h : VI g) (f : FW A B g g2) (r : Rm S0 g g2) (o : okw viC viF A B = true) : VI g2 :=
  vi_c h (funext fun j => r 1 j (Or.inr (Or.inl rfl)) id) (funext fun j => r 2 j (Or.inr (Or.inr (Or.inl rfl))) id) (okw_c o f (by decide)) (okw_c o f (by decide)) (okw_c o f (by decide)) (fun i hi => r 12 _ (cz_12 (by have := hI 0 1 0 12 rfl; omega)) id) (okw_c o f (by decide)) (okw_c o f (by decide)) (okw_c o f (by decide)) (okw_c o f (by decide)) (okw_c o f (by decide)) (okw_f o f (by decide)) (okw_f o f (by decide)) (okw_f o f (by decide)) (okw_f o f (by decide)) (okw_f o f (by decide)) (okw_f o f (by decide)) (okw_f o f (by decide))
theorem al_keep {g g1 : gT} {w v : Int32} (h0 : 0 ≤ (g 0 62).toInt) (h4 : (g 0 62).toInt ≤ 40) (hm : KM w v g g1) (hn : (g1 0 62).toInt = bmp (g 0 62).toInt) (h : AL (g 0 62).toInt 36 g) (new : 36 ≤ w.toInt → w.toInt ≤ 47 → 0 ≤ v.toInt ∧ v.toInt ≤ 99) : AL (g1 0 62).toInt 36 g1 := by
  obtain ⟨m1, ⟨m2, m3⟩, -, -⟩ := hm
  rw [hn, nA_b h0 h4]
  have hd : ∀ k : Nat, k < nA (g 0 62).toInt → ((k + dA (g 0 62).toInt : Nat) : Int) < (g 0 62).toInt := by
    intro k hk
    unfold nA at hk
    unfold dA
    split at hk
    · rename_i c
      rw [if_pos c]; omega
    · rename_i c
      rw [if_neg c]; omega
  intro k hk a b
  rcases (by omega : k < nA (g 0 62).toInt ∨ k = nA (g 0 62).toInt) with hh | hh
  · rw [m1 (2 * k) (by omega)] at a b
    rw [m1 (2 * k + 1) (by omega)]
    rw [show 2 * k + 2 * dA (g 0 62).toInt = 2 * (k + dA (g 0 62).toInt) by omega] at a b
    rw [show 2 * k + 1 + 2 * dA (g 0 62).toInt = 2 * (k + dA (g 0 62).toInt) + 1 by omega]
    exact h _ (hd k hh) a b
  · subst hh
    rw [m2] at a b
    rw [m3]; exact new a b
/-- an act was kept, then one cell of what is held may have changed -/
theorem vi_keep {g g1 g2 : gT} {w v : Int32} (hI : zI MT g) (h : VI g) (hm : KM w v g g1) (hn : (g1 0 62).toInt = bmp (g 0 62).toInt) (new : 36 ≤ w.toInt → w.toInt ≤ 47 → 0 ≤ v.toInt ∧ v.toInt ≤ 99) (ek : ∀ k, k ≠ 12 → k ≠ 0 → g2 k = g1 k) (e0 : ∀ j, j ≠ 52 → g2 0 j = g1 0 j) (e12 : ∀ i : Nat, (i : Int) < (g 0 1).toInt → (g2 12 (36 + i) = g 12 (36 + i) ∨ (0 ≤ (g2 12 (36 + i)).toInt ∧ (g2 12 (36 + i)).toInt ≤ 99))) : VI g2 := by
  have r := hI 0 62 0 40 rfl
  have a := al_keep r.1 r.2 hm hn h.2.1.2.1 new
  obtain ⟨-, -, mk, m0⟩ := hm
  obtain ⟨h1, ⟨h2, h3, h4⟩, h5⟩ := h
  have kk : ∀ k, k ≠ 12 → k ≠ 0 → k ≠ 36 → g2 k = g k := fun k a b c => (ek k a b).trans (mk k c b)
  have zz : ∀ j, j ≠ 52 → j ≠ 62 → g2 0 j = g 0 j := fun j a b => (e0 j a).trans (m0 j b)
  have z1 : g2 0 1 = g 0 1 := zz 1 (by decide) (by decide)
  refine ⟨vp_c h1 (kk 1 (by decide) (by decide) (by decide)) (kk 2 (by decide) (by decide) (by decide)) (kk 3 (by decide) (by decide) (by decide)) (kk 4 (by decide) (by decide) (by decide)) (kk 7 (by decide) (by decide) (by decide)) z1 (zz 3 (by decide) (by decide)), ⟨fun i hi => ?_, ?_, ?_⟩, fun c => ?_⟩
  · rw [z1] at hi
    rcases e12 i hi with e | e
    · rw [e]; exact h2 i hi
    · exact e
  · unfold AL
    rw [e0 62 (by decide), ek 36 (by decide) (by decide)]; exact a
  · unfold SN
    rw [z1, zz 73 (by decide) (by decide), kk 43 (by decide) (by decide) (by decide)]; exact h4
  · rw [zz 81 (by decide) (by decide)] at c
    exact vm_c (h5 c) (kk 48 (by decide) (by decide) (by decide)) (kk 49 (by decide) (by decide) (by decide)) (kk 50 (by decide) (by decide) (by decide)) z1 (zz 83 (by decide) (by decide)) (zz 84 (by decide) (by decide))
/-- nothing but what was thrown and the counters -/
theorem vi_00 {g g2 : gT} (h : VI g) (ek : ∀ k, k ≠ 0 → k ≠ 14 → g2 k = g k) (e0 : ∀ j, j ≠ 0 → g2 0 j = g 0 j) : VI g2 :=
  vi_c h (ek 1 (by decide) (by decide)) (ek 2 (by decide) (by decide)) (ek 3 (by decide) (by decide)) (ek 4 (by decide) (by decide)) (ek 7 (by decide) (by decide)) (fun i _ => by rw [ek 12 (by decide) (by decide)]) (ek 36 (by decide) (by decide)) (ek 43 (by decide) (by decide)) (ek 48 (by decide) (by decide)) (ek 49 (by decide) (by decide)) (ek 50 (by decide) (by decide)) (e0 1 (by decide)) (e0 3 (by decide)) (e0 62 (by decide)) (e0 73 (by decide)) (e0 81 (by decide)) (e0 83 (by decide)) (e0 84 (by decide))
theorem vi_obey {fu : Nat} {p1 : Int32} {g : gT} {L : lT} (hI : zI MT g) (h : VI g) : Pc (fX12_obey fu p1 g L) (fun _ g2 _ => VI g2) := by
  unfold fX12_obey
  refine pc_st (fun g1 e1 => ?_)
  have k1 : ∀ k, k ≠ 0 → g1 k = g k := fun k hk => by rw [e1]; exact funext fun _ => upd2_nk hk
  have o1 : ∀ j, j ≠ 0 → g1 0 j = g 0 j := fun j hj => by rw [e1, upd2_nj hj]
  have w1 : VI g1 := vi_00 h (fun k a _ => k1 k a) o1
  have hI1 : zI MT g1 := by rw [e1]; exact hI.updN rfl
  have p18 : Pc (fX12_obey_p18 fu g1 L) (fun _ g2 _ => VI g2) := by
    unfold fX12_obey_p18 fX12_obey_p31
    refine pc_cb ref_m (fun x g3 L3 e3 => ?_)
    have w3 : VI g3 := vi_00 w1 (fun k _ b => e3 k b) (fun j _ => by rw [e3 0 (by decide)])
    exact pc_ite (fun _ => pc_ckb (pc_some w3)) (fun _ => pc_ckb (pc_some w3))
  refine pc_ite (fun _ => p18) (fun _ => pc_ite (fun _ => ?_) (fun _ => p18))
  have r := hI1 0 62 0 40 rfl
  refine pc_cb (pc_and (keeps_m r.1 r.2) (keeps_n r.1 r.2)) (fun x g10 L11 q => pc_st (fun g13 e13 => pc_ckb (pc_some ?_)))
  refine vi_keep hI1 w1 q.1 q.2 (fun _ b => absurd b (by decide)) (fun k _ b => by rw [e13]; exact funext fun _ => upd2_nk b) (fun j hj => by rw [e13, upd2_nj hj]) (fun i _ => Or.inl ?_)
  rw [e13, upd2_nk (by decide), q.1.2.2.1 12 (by decide) (by decide)]
theorem vi_become {fu : Nat} {p1 p2 p3 : Int32} {g : gT} {L : lT} (hI : zI MT g) (h : VI g) : Pc (fX12_become fu p1 p2 p3 g L) (fun _ g2 _ => VI g2) := by
  unfold fX12_become fX12_become_p22
  refine pc_st (fun g1 e1 => ?_)
  have k1 : ∀ k, k ≠ 0 → g1 k = g k := fun k hk => by rw [e1]; exact funext fun _ => upd2_nk hk
  have o1 : ∀ j, j ≠ 0 → g1 0 j = g 0 j := fun j hj => by rw [e1, upd2_nj hj]
  have w1 : VI g1 := vi_00 h (fun k a _ => k1 k a) o1
  have hI1 : zI MT g1 := by rw [e1]; exact hI.updN rfl
  have a0 : g1 0 0 = 0 := by rw [e1, upd2_at]
  have er : ∀ {x : Int32}, VI (upd2 g1 0 0 x) := fun {x} => vi_00 w1 (fun k a _ => funext fun _ => upd2_nk a) (fun j hj => upd2_nj hj)
  by_cases c1 : isL (g1 0 1) p1
  rotate_left
  · rw [lesson0 a0 c1, cbs, if_pos rfl]
    exact pc_some er
  rw [lesson1 a0 c1, cbs, if_neg (by decide)]
  by_cases c2 : 0 ≤ p2.toInt ∧ p2.toInt ≤ (3 : Int32).toInt
  rotate_left
  · rw [what0 a0 c2, cbs, if_pos rfl]
    exact pc_some er
  rw [what1 a0 c2.1 c2.2, cbs, if_neg (by decide)]
  have i3 : (3 : Int32).toInt = 3 := rfl
  have q1 := hI1 0 1 0 12 rfl
  have l := l12 c1 q1.2
  have r := hI1 0 62 0 40 rfl
  have p57 : ∀ hi : Int32, (p2.toInt = 3 → hi.toInt = 99) → Pc (fX12_become_p57 fu p1 p2 p3 hi 0 p3 g1 L) (fun _ g2 _ => VI g2) := by
    intro hi hh
    unfold fX12_become_p57
    by_cases c3 : (0 : Int32).toInt ≤ p3.toInt ∧ p3.toInt ≤ hi.toInt
    rotate_left
    · rw [within0 c3, cbs, if_pos rfl]
      exact pc_cb ref_m (fun x g3 L3 e3 => pc_some (vi_00 w1 (fun k _ b => e3 k b) (fun j _ => by rw [e3 0 (by decide)])))
    rw [within1 c3.1 c3.2, cbs, if_neg (by decide)]
    have z0 : (0 : Int32).toInt = 0 := rfl
    refine pc_lti (fun x17 e17 => pc_ck (fun _ _ => pc_lti (fun x18 e18 => pc_cb (pc_and (keeps_m r.1 r.2) (keeps_n r.1 r.2)) (fun x g20 L21 q => pc_ck (fun _ _ => pc_st (fun g23 e23 => pc_some ?_))))))
    have e12 : (12 * p2).toInt = 12 * p2.toInt := ic_mulc (m := 12) rfl rfl (by omega) (by omega)
    have ex : x17.toInt = 12 * p2.toInt + p1.toInt := by rw [e17, ic_addc e12 rfl (by omega) (by omega)]
    have exn : x17.toNatClampNeg = (12 * p2.toInt + p1.toInt).toNat := by rw [nc, ex]
    refine vi_keep hI1 w1 q.1 q.2 (fun a b => ?_) (fun k a _ => by rw [e23]; exact funext fun _ => upd2_nk a) (fun j _ => by rw [e23, upd2_nk (by decide)]) (fun i hi' => ?_)
    · have hl := w1.2.1.1 p1.toInt.toNat (by have := c1.2; omega)
      rw [e18, exn, show (12 * p2.toInt + p1.toInt).toNat = 36 + p1.toInt.toNat by omega]
      exact hl
    · rw [e23, exn]
      by_cases ei : 36 + i = (12 * p2.toInt + p1.toInt).toNat
      · rw [ei, upd2_at]
        have := hh (by omega)
        exact Or.inr (by omega)
      · rw [upd2_nj ei, q.1.2.2.1 12 (by decide) (by decide)]
        exact Or.inl rfl
  refine pc_ite (fun c => p57 _ (fun e => ?_)) (fun _ => pc_ite (fun c => p57 _ (fun e => ?_)) (fun _ => pc_ite (fun c => p57 _ (fun e => ?_)) (fun _ => p57 _ (fun _ => rfl))))
  · rw [c] at e; exact absurd e (by decide)
  · rw [c] at e; exact absurd e (by decide)
  · rw [c] at e; exact absurd e (by decide)
theorem vi_undo {fu : Nat} {g : gT} {L : lT} (hI : zI MT g) (h : VI g) : Pc (fX12_undo fu g L) (fun _ g2 _ => VI g2) := by
  unfold fX12_undo fX12_undo_p89
  refine pc_st (fun g1 e1 => ?_)
  have k1 : ∀ k, k ≠ 0 → g1 k = g k := fun k hk => by rw [e1]; exact funext fun _ => upd2_nk hk
  have o1 : ∀ j, j ≠ 0 → g1 0 j = g 0 j := fun j hj => by rw [e1, upd2_nj hj]
  have w1 : VI g1 := vi_00 h (fun k a _ => k1 k a) o1
  have hI1 : zI MT g1 := by rw [e1]; exact hI.updN rfl
  have r := hI1 0 62 0 40 rfl
  refine pc_ite (fun _ => pc_some w1) (fun c => pc_st (fun g3 e3 => ?_))
  have c : ¬ (g1 0 62).toInt = 0 := icc_neq (n := 0) rfl rfl c
  have s62 : (g3 0 62).toInt = (g1 0 62).toInt - 1 := by rw [e3, upd2_at, ic_subc (n := 1) rfl rfl (by omega) (by omega)]
  have k3 : ∀ k, k ≠ 0 → g3 k = g1 k := fun k hk => by rw [e3]; exact funext fun _ => upd2_nk hk
  have o3 : ∀ j, j ≠ 62 → g3 0 j = g1 0 j := fun j hj => by rw [e3, upd2_nj hj]
  obtain ⟨m, em⟩ : ∃ m : Nat, (g3 0 62).toInt = (m : Int) := ⟨(g3 0 62).toInt.toNat, by omega⟩
  have e2 : (2 * g3 0 62).toInt = 2 * (m : Int) := ic_mulc (m := 2) rfl em (by omega) (by omega)
  have n2 : (2 * g3 0 62).toNatClampNeg = 2 * m := by rw [nc, e2]; omega
  have n3 : (2 * g3 0 62 + 1).toNatClampNeg = 2 * m + 1 := by rw [nc, ic_addc e2 (n := 1) rfl (by omega) (by omega)]; omega
  obtain ⟨h1, ⟨h2, h3, h4⟩, h5⟩ := w1
  have fin : ∀ g6 : gT, (∀ k, k ≠ 0 → k ≠ 12 → g6 k = g3 k) → (∀ j, j ≠ 52 → g6 0 j = g3 0 j) → LW 12 g6 → VI g6 := by
    intro g6 ek e0 hR
    have kk : ∀ k, k ≠ 0 → k ≠ 12 → g6 k = g1 k := fun k a b => (ek k a b).trans (k3 k a)
    have zz : ∀ j, j ≠ 52 → j ≠ 62 → g6 0 j = g1 0 j := fun j a b => (e0 j a).trans (o3 j b)
    refine ⟨vp_c h1 (kk 1 (by decide) (by decide)) (kk 2 (by decide) (by decide)) (kk 3 (by decide) (by decide)) (kk 4 (by decide) (by decide)) (kk 7 (by decide) (by decide)) (zz 1 (by decide) (by decide)) (zz 3 (by decide) (by decide)), ⟨hR, ?_, ?_⟩, fun cc => ?_⟩
    · unfold AL
      rw [e0 62 (by decide), kk 36 (by decide) (by decide)]
      exact fun k hk => h3 k (by omega)
    · unfold SN
      rw [zz 1 (by decide) (by decide), zz 73 (by decide) (by decide), kk 43 (by decide) (by decide)]; exact h4
    · rw [zz 81 (by decide) (by decide)] at cc
      exact vm_c (h5 cc) (kk 48 (by decide) (by decide)) (kk 49 (by decide) (by decide)) (kk 50 (by decide) (by decide)) (zz 1 (by decide) (by decide)) (zz 83 (by decide) (by decide)) (zz 84 (by decide) (by decide))
  rw [n2, n3]
  refine pc_ck (fun _ _ => pc_ite (fun _ => pc_ck (fun _ _ => pc_st (fun g6 e6 => pc_some (fin g6 ?_ ?_ ?_)))) (fun c2 => pc_ck (fun _ _ => pc_ck (fun _ _ => pc_ck (fun b1 b2 => pc_st (fun g5 e5 => pc_some (fin g5 ?_ ?_ ?_)))))))
  · exact fun k a _ => by rw [e6]; exact funext fun _ => upd2_nk a
  · exact fun j hj => by rw [e6, upd2_nj hj]
  · intro i hi
    rw [e6, upd2_nj (by decide), o3 1 (by decide)] at hi
    rw [e6, upd2_nk (by decide), k3 12 (by decide)]; exact h2 i hi
  · exact fun k _ b => by rw [e5]; exact funext fun _ => upd2_nk b
  · exact fun j _ => by rw [e5, upd2_nk (by decide)]
  · intro i hi
    rw [e5, upd2_nk (by decide), o3 1 (by decide)] at hi
    rw [e5]
    have q1 := hI1 0 1 0 12 rfl
    by_cases ei : 36 + i = (g3 36 (2 * m)).toNatClampNeg
    · rw [ei, upd2_at, k3 36 (by decide)]
      rw [nc, k3 36 (by decide)] at ei
      rw [k3 36 (by decide)] at b1
      exact h3 m (by omega) (by omega) (by omega)
    · rw [upd2_nj ei, k3 12 (by decide)]; exact h2 i hi
theorem vi_see {fu : Nat} {p1 p2 : Int32} {g : gT} {L : lT} (hI : zI MT g) (h : VI g) : Pc (fX12_see fu p1 p2 g L) (fun _ g2 _ => VI g2) := by
  unfold fX12_see
  refine pc_st (fun g1 e1 => ?_)
  have k1 : ∀ k, k ≠ 0 → g1 k = g k := fun k hk => by rw [e1]; exact funext fun _ => upd2_nk hk
  have o1 : ∀ j, j ≠ 0 → g1 0 j = g 0 j := fun j hj => by rw [e1, upd2_nj hj]
  have w1 : VI g1 := vi_00 h (fun k a _ => k1 k a) o1
  have hI1 : zI MT g1 := by rw [e1]; exact hI.updN rfl
  have a0 : g1 0 0 = 0 := by rw [e1, upd2_at]
  have er : ∀ {x : Int32}, VI (upd2 g1 0 0 x) := fun {x} => vi_00 w1 (fun k a _ => funext fun _ => upd2_nk a) (fun j hj => upd2_nj hj)
  have p35 : ∀ La : lT, Pc (fX12_see_p35 fu g1 La) (fun _ g2 _ => VI g2) := by
    intro La
    unfold fX12_see_p35
    exact pc_cb ref_m (fun x g3 L3 e3 => pc_some (vi_00 w1 (fun k _ b => e3 k b) (fun j _ => by rw [e3 0 (by decide)])))
  by_cases c1 : isL (g1 0 1) p1
  rotate_left
  · rw [lesson0 a0 c1, cbs, if_pos rfl]
    exact pc_some er
  rw [lesson1 a0 c1, cbs, if_neg (by decide)]
  refine pc_ite (fun _ => p35 _) (fun c => ?_)
  have c : ¬ (g1 0 73).toInt = 8 := icc_neq (n := 8) rfl rfl c
  have r73 := hI1 0 73 0 8 rfl
  by_cases c2 : (0 : Int32).toInt ≤ p2.toInt ∧ p2.toInt ≤ (999 : Int32).toInt
  rotate_left
  · rw [within0 c2, cbs, if_pos rfl]
    exact p35 _
  rw [within1 c2.1 c2.2, cbs, if_neg (by decide)]
  obtain ⟨m, em⟩ : ∃ m : Nat, (g1 0 73).toInt = (m : Int) := ⟨(g1 0 73).toInt.toNat, by omega⟩
  have e2 : (2 * g1 0 73).toInt = 2 * (m : Int) := ic_mulc (m := 2) rfl em (by omega) (by omega)
  have n2 : (2 * g1 0 73).toNatClampNeg = 2 * m := by rw [nc, e2]; omega
  have n3 : (2 * g1 0 73 + 1).toNatClampNeg = 2 * m + 1 := by rw [nc, ic_addc e2 (n := 1) rfl (by omega) (by omega)]; omega
  rw [n2]
  refine pc_ck (fun _ _ => pc_st (fun g17 e17 => ?_))
  have a17 : g17 0 73 = g1 0 73 := by rw [e17, upd2_nk (by decide)]
  rw [a17, n3]
  refine pc_ck (fun _ _ => pc_st (fun g18 e18 => ?_))
  have a18 : g18 0 73 = g1 0 73 := by rw [e18, upd2_nk (by decide), a17]
  rw [a18]
  refine pc_st (fun g19 e19 => pc_some ?_)
  have k19 : ∀ k, k ≠ 0 → k ≠ 43 → g19 k = g1 k := fun k a b => by rw [e19, e18, e17]; exact funext fun _ => by rw [upd2_nk a, upd2_nk b, upd2_nk b]
  have o19 : ∀ j, j ≠ 73 → g19 0 j = g1 0 j := fun j hj => by rw [e19, upd2_nj hj, e18, upd2_nk (by decide), e17, upd2_nk (by decide)]
  have s19 : (g19 0 73).toInt = (m : Int) + 1 := by rw [e19, upd2_at, ic_addc em (n := 1) rfl (by omega) (by omega)]
  obtain ⟨h1, ⟨h2, h3, h4⟩, h5⟩ := w1
  refine ⟨vp_c h1 (k19 1 (by decide) (by decide)) (k19 2 (by decide) (by decide)) (k19 3 (by decide) (by decide)) (k19 4 (by decide) (by decide)) (k19 7 (by decide) (by decide)) (o19 1 (by decide)) (o19 3 (by decide)), ⟨?_, ?_, fun k hk => ?_⟩, fun cc => ?_⟩
  · unfold LW; rw [o19 1 (by decide), k19 12 (by decide) (by decide)]; exact h2
  · unfold AL; rw [o19 62 (by decide), k19 36 (by decide) (by decide)]; exact h3
  · rw [s19] at hk
    rw [o19 1 (by decide), e19, upd2_nk (by decide), e18, upd2_nj (by omega), e17]
    by_cases ek : k = m
    · rw [ek, upd2_at]; exact c1
    · rw [upd2_nj (by omega)]; exact h4 k (by omega)
  · rw [o19 81 (by decide)] at cc
    exact vm_c (h5 cc) (k19 48 (by decide) (by decide)) (k19 49 (by decide) (by decide)) (k19 50 (by decide) (by decide)) (o19 1 (by decide)) (o19 83 (by decide)) (o19 84 (by decide))
theorem vi_forget {fu : Nat} {g : gT} {L : lT} (h : VI g) : Pc (fX12_forget fu g L) (fun _ g2 _ => VI g2) := by
  unfold fX12_forget
  refine pc_st (fun g1 e1 => pc_st (fun g2 e2 => pc_some ?_))
  have k2 : ∀ k, k ≠ 0 → g2 k = g k := fun k hk => by rw [e2, e1]; exact funext fun _ => by rw [upd2_nk hk, upd2_nk hk]
  have o2 : ∀ j, j ≠ 73 → j ≠ 0 → g2 0 j = g 0 j := fun j a b => by rw [e2, upd2_nj a, e1, upd2_nj b]
  obtain ⟨h1, ⟨h2, h3, -⟩, h5⟩ := h
  refine ⟨vp_c h1 (k2 1 (by decide)) (k2 2 (by decide)) (k2 3 (by decide)) (k2 4 (by decide)) (k2 7 (by decide)) (o2 1 (by decide) (by decide)) (o2 3 (by decide) (by decide)), ⟨?_, ?_, fun k hk => ?_⟩, fun cc => ?_⟩
  · unfold LW; rw [o2 1 (by decide) (by decide), k2 12 (by decide)]; exact h2
  · unfold AL; rw [o2 62 (by decide) (by decide), k2 36 (by decide)]; exact h3
  · rw [e2, upd2_at] at hk
    exact absurd hk (by show ¬ (k : Int) < 0; omega)
  · rw [o2 81 (by decide) (by decide)] at cc
    exact vm_c (h5 cc) (k2 48 (by decide)) (k2 49 (by decide)) (k2 50 (by decide)) (o2 1 (by decide) (by decide)) (o2 83 (by decide) (by decide)) (o2 84 (by decide) (by decide))
theorem vi_image {fu : Nat} (hfu : 1180591620717411303424 ≤ fu) {g : gT} {L : lT} (hI : zI MT g) (h : VI g) : Pc (fX12_image fu g L) (fun _ g2 _ => VI g2) := by
  intro x g2 L2 e2
  have f2 : FW _ _ g g2 := w_fX12_image _ _ _ _ FW.refl _ _ e2
  have q1 := hI 0 1 0 12 rfl
  have q62 := hI 0 62 0 40 rfl
  have q73 := hI 0 73 0 8 rfl
  unfold fX12_image at e2
  unfold sti at e2
  obtain ⟨x1, ga, La, ea, e⟩ := cb_some e2
  obtain ⟨x2, gb, Lb, eb, e⟩ := cb_some e
  obtain ⟨x3, gc, Lc, ec, e⟩ := cb_some e
  cases e
  have ha := pc_ex (uX12_copies_12_48 fu hfu _ L) _ _ _ ea
  have hb := pc_ex (uX12_copies_36_49 fu hfu ga La) _ _ _ eb
  have hc := pc_ex (uX12_copies_43_50 fu hfu gb Lb) _ _ _ ec
  have y1 : ∀ j, j < 48 → g2 48 j = g 12 j := fun j hj => by rw [hc, cpd_ne (by decide), hb, cpd_ne (by decide), ha, cpd_at hj]; rfl
  have y2 : ∀ j, j < 80 → g2 49 j = g 36 j := fun j hj => by rw [hc, cpd_ne (by decide), hb, cpd_at hj, ha, cpd_ne (by decide)]; rfl
  have y4 : ∀ j, j < 16 → g2 50 j = g 43 j := fun j hj => by rw [hc, cpd_at hj, hb, cpd_ne (by decide), ha, cpd_ne (by decide)]; rfl
  have y3 : g2 0 83 = g 0 62 := by rw [hc, cpd_ne (by decide), hb, cpd_ne (by decide), ha, cpd_ne (by decide)]; rfl
  have y5 : g2 0 84 = g 0 73 := by rw [hc, cpd_ne (by decide), hb, cpd_ne (by decide), ha, cpd_ne (by decide)]; rfl
  obtain ⟨h1, ⟨h2, h3, h4⟩, h5⟩ := h
  have z1 : g2 0 1 = g 0 1 := f2 0 1 (by decide) (by decide)
  have kk : ∀ k, k ∉ [0, 48, 49, 50] → g2 k = g k := fun k hk => f2.c (fun hm => hk (by revert hm; simp only [List.mem_cons, List.not_mem_nil, or_false]; omega)) (fun hm => hk (by revert hm; simp only [List.map, List.mem_cons, List.not_mem_nil, or_false]; omega))
  refine ⟨vp_c h1 (kk 1 (by decide)) (kk 2 (by decide)) (kk 3 (by decide)) (kk 4 (by decide)) (kk 7 (by decide)) z1 (f2 0 3 (by decide) (by decide)), ⟨?_, ?_, ?_⟩, fun _ => ⟨fun i hi => ?_, fun k hk a b => ?_, fun k hk => ?_⟩⟩
  · unfold LW; rw [z1, kk 12 (by decide)]; exact h2
  · unfold AL; rw [f2 0 62 (by decide) (by decide), kk 36 (by decide)]; exact h3
  · unfold SN; rw [z1, f2 0 73 (by decide) (by decide), kk 43 (by decide)]; exact h4
  · rw [z1] at hi
    rw [y1 _ (by omega)]; exact h2 i hi
  · rw [y3] at hk
    rw [y2 _ (by omega)] at a b ⊢
    exact h3 k hk a b
  · rw [y5] at hk
    rw [z1, y4 _ (by omega)]; exact h4 k hk
theorem vi_restore {fu : Nat} (hfu : 1180591620717411303424 ≤ fu) {g : gT} {L : lT} (hI : zI MT g) (h : VI g) : Pc (fX12_restore fu g L) (fun _ g2 _ => VI g2) := by
  intro x g2 L2 e2
  have f2 : FW _ _ g g2 := w_fX12_restore _ _ _ _ FW.refl _ _ e2
  have q1 := hI 0 1 0 12 rfl
  have q83 := hI 0 83 0 40 rfl
  have q84 := hI 0 84 0 8 rfl
  unfold fX12_restore at e2
  unfold sti at e2
  by_cases c : g 0 81 = 0
  · have e2 : (if g 0 81 = 0 then _ else _) = some (x, (g2, L2)) := e2
    rw [if_pos c] at e2
    cases e2
    exact vi_00 h (fun k a _ => funext fun _ => upd2_nk a) (fun j hj => upd2_nj hj)
  have e2 : (if g 0 81 = 0 then _ else _) = some (x, (g2, L2)) := e2
  rw [if_neg c] at e2
  obtain ⟨x1, ga, La, ea, e⟩ := cb_some e2
  obtain ⟨x2, gb, Lb, eb, e⟩ := cb_some e
  obtain ⟨x3, gc, Lc, ec, e⟩ := cb_some e
  cases e
  have ha := pc_ex (uX12_copies_48_12 fu hfu _ L) _ _ _ ea
  have hb := pc_ex (uX12_copies_49_36 fu hfu ga La) _ _ _ eb
  have hc := pc_ex (uX12_copies_50_43 fu hfu gb Lb) _ _ _ ec
  have y1 : ∀ j, j < 48 → g2 12 j = g 48 j := fun j hj => by rw [hc, cpd_ne (by decide), hb, cpd_ne (by decide), ha, cpd_at hj]; rfl
  have y2 : ∀ j, j < 80 → g2 36 j = g 49 j := fun j hj => by rw [hc, cpd_ne (by decide), hb, cpd_at hj, ha, cpd_ne (by decide)]; rfl
  have y4 : ∀ j, j < 16 → g2 43 j = g 50 j := fun j hj => by rw [hc, cpd_at hj, hb, cpd_ne (by decide), ha, cpd_ne (by decide)]; rfl
  have y3 : g2 0 62 = g 0 83 := by rw [hc, cpd_ne (by decide), hb, cpd_ne (by decide), ha, cpd_ne (by decide)]; rfl
  have y5 : g2 0 73 = g 0 84 := by rw [hc, cpd_ne (by decide), hb, cpd_ne (by decide), ha, cpd_ne (by decide)]; rfl
  obtain ⟨h1, -, h5⟩ := h
  obtain ⟨h2, h3, h4⟩ := h5 c
  have z1 : g2 0 1 = g 0 1 := f2 0 1 (by decide) (by decide)
  have kk : ∀ k, k ∉ [0, 12, 36, 43] → g2 k = g k := fun k hk => f2.c (fun hm => hk (by revert hm; simp only [List.mem_cons, List.not_mem_nil, or_false]; omega)) (fun hm => hk (by revert hm; simp only [List.map, List.mem_cons, List.not_mem_nil, or_false]; omega))
  refine ⟨vp_c h1 (kk 1 (by decide)) (kk 2 (by decide)) (kk 3 (by decide)) (kk 4 (by decide)) (kk 7 (by decide)) z1 (f2 0 3 (by decide) (by decide)), ⟨fun i hi => ?_, fun k hk a b => ?_, fun k hk => ?_⟩, fun cc => ?_⟩
  · rw [z1] at hi
    rw [y1 _ (by omega)]; exact h2 i hi
  · rw [y3] at hk
    rw [y2 _ (by omega)] at a b ⊢
    exact h3 k hk a b
  · rw [y5] at hk
    rw [z1, y4 _ (by omega)]; exact h4 k hk
  · rw [f2 0 81 (by decide) (by decide)] at cc
    exact vm_c (h5 cc) (kk 48 (by decide)) (kk 49 (by decide)) (kk 50 (by decide)) z1 (f2 0 83 (by decide) (by decide)) (f2 0 84 (by decide) (by decide))
/-- those waited for were read up to their end -/
theorem waS_L {b : Nat → Int32} {n : Nat} {l s : Int} : ∀ {f : Nat} {acc : List Int} {P R : Nat}, waS b n l s f acc P = .ok R → R = (waL b n f acc P).2 := by
  intro f
  induction f with
  | zero => intro acc P R h; exact nomatch h
  | succ f ih =>
    intro acc P R h
    unfold waS at h
    unfold waL
    by_cases k : tK b n P = 1
    · rw [if_pos k] at h ⊢
      split at h
      · split at h
        · split at h
          · exact nomatch h
          · exact ih h
        · exact nomatch h
      · exact nomatch h
    · rw [if_neg k] at h ⊢
      split at h
      · exact nomatch h
      · split at h
        · exact nomatch h
        · cases h; rfl
theorem tlS_o {b : Nat → Int32} {n Q R : Nat} {l : Int} (h : tlS b n l Q = .ok R) : ops b n (leL b n Q).2 = .ok R := by
  unfold tlS at h
  unfold leL
  by_cases w6 : wB b n Q 6
  · rw [if_pos w6] at h ⊢
    obtain ⟨R1, e, h⟩ := bn_inv h
    rw [← waS_L e]; exact h
  · rw [if_neg w6] at h ⊢
    by_cases w7 : wB b n Q 7
    · rw [if_pos w7] at h ⊢
      obtain ⟨R1, e1, h⟩ := bn_inv h
      obtain ⟨R2, e2, h⟩ := bn_inv h
      rw [(nuS_ok e1).2] at e2
      rw [← waS_L e2]; exact h
    · rw [if_neg w7] at h ⊢
      exact h
theorem opS_v {b : Nat → Int32} {n k P Q : Nat} {hi d : Int} (h : opS b n k hi P = .ok Q) (d0 : 0 ≤ d) (d1 : d ≤ hi) : (0 ≤ opV b n k d P ∧ opV b n k d P ≤ hi) ∧ Q = opN b n k P := by
  unfold opS at h
  unfold opV opN
  by_cases w : wB b n P k
  · rw [if_pos w] at h ⊢
    rw [if_pos w]
    have c := nuS_ok h
    exact ⟨c.1.2.2, c.2⟩
  · rw [if_neg w] at h ⊢
    rw [if_neg w]
    cases h
    exact ⟨⟨d0, d1⟩, rfl⟩
/-- the numbers of a lesson that was read -/
theorem leS_v {b : Nat → Int32} {n P R : Nat} {l : Int} (h : leS b n l P = .ok R) : (0 ≤ leV b n P 3 ∧ leV b n P 3 < leV b n P 4 ∧ leV b n P 4 ≤ 999) ∧ (1 ≤ leV b n P 5 ∧ leV b n P 5 ≤ 200) ∧ (1 ≤ leV b n P 8 ∧ leV b n P 8 ≤ 99) ∧ (0 ≤ leV b n P 12 ∧ leV b n P 12 ≤ 10) ∧ (0 ≤ leV b n P 11 ∧ leV b n P 11 ≤ 99) := by
  unfold leS at h
  obtain ⟨P1, e1, h⟩ := bn_inv h
  have a1 : nuC b n 0 999 (nxI b n 1 P) := (nuS_ok e1).1
  have q1 : P1 = nxI b n 2 P := (nuS_ok e1).2
  rw [q1] at h
  obtain ⟨P2, e2, h⟩ := bn_inv h
  have a2 := (nuS_ok e2).1
  have q2 : P2 = nxI b n 3 P := (nuS_ok e2).2
  rw [q2] at h
  obtain ⟨P3, e3, h⟩ := bn_inv h
  have a3 := (nuS_ok e3).1
  have q3 : P3 = nxI b n 4 P := (nuS_ok e3).2
  rw [q3] at h
  obtain ⟨P4, e4, h⟩ := bn_inv h
  have q4 : P4 = nxI b n 5 P := (nuS_ok e4).2
  rw [q4] at h
  obtain ⟨P5, e5, h⟩ := bn_inv h
  have q5 : P5 = nxI b n 6 P := (nuS_ok e5).2
  rw [q5] at h
  obtain ⟨P6, e6, h⟩ := bn_inv h
  have a6 := (nuS_ok e6).1
  have q6 : P6 = nxI b n 7 P := (nuS_ok e6).2
  rw [q6] at h
  have h := tlS_o h
  unfold ops at h
  obtain ⟨R1, e7, h⟩ := bn_inv h
  obtain ⟨v11, q7⟩ := opS_v (d := 99) e7 (by decide) (by decide)
  rw [q7] at h
  obtain ⟨R2, e8, h⟩ := bn_inv h
  obtain ⟨v12, -⟩ := opS_v (d := 10) e8 (by decide) (by decide)
  exact ⟨⟨a1.2.2.1, a2.2.2.1, a2.2.2.2⟩, a3.2.2, a6.2.2, v12, v11⟩
theorem ho_walk {b : Nat → Int32} {n : Nat} : ∀ (f : Nat) (t : tS) (D : dT) (P : Nat) (t' : tS), hoS b n f t P = .ok t' → (0 ≤ D.2.2.1 ∧ D.2.2.1 ≤ 9) → 0 ≤ (hoD b n f t D P).2.2.1 ∧ (hoD b n f t D P).2.2.1 ≤ 9 := by
  intro f
  induction f with
  | zero => intro t D P t' h; exact nomatch h
  | succ f ih =>
    intro t D P t' h hD
    unfold hoS at h
    unfold hoD
    by_cases k0 : tK b n P = 0
    · rw [if_pos k0]; exact hD
    rw [if_neg k0] at h ⊢
    cases hli : liS b n t P with
    | error p => rw [hli] at h; exact nomatch h
    | ok q =>
      rw [hli] at h
      have h : hoS b n f q.1 q.2 = .ok t' := h
      show 0 ≤ (hoD b n f q.1 (liD b n t D P) q.2).2.2.1 ∧ (hoD b n f q.1 (liD b n t D P) q.2).2.2.1 ≤ 9
      refine ih q.1 (liD b n t D P) q.2 t' h ?_
      unfold liS at hli
      unfold liD
      split at hli
      · rename_i w
        rw [if_pos w]; exact hD
      · rename_i w5
        rw [if_neg w5]
        split at hli
        · rename_i w
          rw [if_pos w]
          unfold fnS at hli
          by_cases ct : t.2.2.1 = true
          · rw [if_pos ct] at hli; exact nomatch hli
          · rw [if_neg ct] at hli
            cases hr : nuS b n 0 9 (nx b n P) with
            | error p => rw [hr] at hli; exact nomatch hli
            | ok Q => exact (nuS_ok hr).1.2.2
        · rename_i w11
          rw [if_neg w11]
          split at hli
          · rename_i w
            rw [if_pos w]; exact hD
          · rename_i w12
            rw [if_neg w12]
            split at hli
            · rename_i w
              rw [if_pos w]; exact hD
            · exact nomatch hli
theorem vi_house {fu : Nat} (hfu : 1180591620717411303424 ≤ fu) {p1 rm : Int32} {g g2 : gT} {L L2 : lT} (hI : zI MT g) (h : VI g) (e2 : fX12_house fu p1 g L = some (rm, (g2, L2))) : VI g2 := by
  have q18 := hI 0 18 0 700 rfl
  by_cases c : 0 ≤ p1.toInt ∧ p1.toInt ≤ (g 0 18).toInt
  · obtain ⟨n, hn⟩ : ∃ n : Nat, p1.toInt = (n : Int) := ⟨p1.toInt.toNat, by omega⟩
    have y4 := pc_ex (t_house hfu (b := g 13) (n := n) (L0 := L) hI hn (by omega) (fun j hj => rfl)) _ _ _ e2
    have hl := ho_les (b := g 13) (n := n) 702 (0, 0, false, false) D0 (sk (g 13) n 0)
    have hw := ho_walk (b := g 13) (n := n) 702 (0, 0, false, false) D0 (sk (g 13) n 0)
    clear e2
    revert y4 hl hw
    generalize hoS (g 13) n 702 (0, 0, false, false) (sk (g 13) n 0) = R
    generalize hoD (g 13) n 702 (0, 0, false, false) D0 (sk (g 13) n 0) = DD
    intro y4 hl hw
    cases R with
    | error p =>
      obtain ⟨-, y2, -⟩ := y4
      exact vi_fr h y2.fw (by decide)
    | ok t =>
      obtain ⟨-, y2, y3, -, -, y6, y7, -, -, q1, q2, -⟩ := y4
      have hl := hl t rfl (fun i hi => absurd hi (Nat.not_lt_zero _))
      have hw := hw t rfl ⟨by decide, by decide⟩
      refine ⟨⟨fun i hi => ?_, by rw [q2]; exact hw⟩, ⟨fun i hi => ?_, fun k hk => ?_, fun k hk => ?_⟩, fun cc => absurd y2 cc⟩
      · obtain ⟨R, e⟩ := hl i (by omega)
        obtain ⟨m1, m2, m3, -, -, m6, -, -, -, m10, -⟩ := q1 i (by omega)
        replace m1 : (g2 1 i).toInt = leV (g 13) n (DD.1 i) 3 := m1
        replace m2 : (g2 2 i).toInt = leV (g 13) n (DD.1 i) 4 := m2
        replace m3 : (g2 3 i).toInt = leV (g 13) n (DD.1 i) 5 := m3
        replace m6 : (g2 4 i).toInt = leV (g 13) n (DD.1 i) 8 := m6
        replace m10 : (g2 7 i).toInt = leV (g 13) n (DD.1 i) 12 := m10
        obtain ⟨v1, v2, v3, v4, -⟩ := leS_v e
        rw [m1, m2, m3, m6, m10]
        exact ⟨v1, v2, v3, v4⟩
      · obtain ⟨R, e⟩ := hl i (by omega)
        obtain ⟨-, -, -, -, -, -, -, -, m9, -⟩ := q1 i (by omega)
        replace m9 : (g2 12 (36 + i)).toInt = leV (g 13) n (DD.1 i) 11 := m9
        rw [m9]; exact (leS_v e).2.2.2.2
      · rw [y6] at hk
        exact absurd hk (by show ¬ (k : Int) < 0; omega)
      · rw [y7] at hk
        exact absurd hk (by show ¬ (k : Int) < 0; omega)
  · have c' : p1.toInt < 0 ∨ (g 0 18).toInt < p1.toInt := by omega
    rw [m_refused c'] at e2
    cases e2
    refine vi_00 h (fun k a _ => funext fun _ => by rw [upd2_nk a, upd2_nk a]) (fun j hj => by rw [upd2_nj hj, upd2_nj hj])
/-- class and reference, with what holds of the numbers besides -/
def CS (g gm : gT) : Prop := CR g gm ∧ VI gm
end
