/-! ===== what is lost on a day, as a number of the data ===== -/
def LV (cs : Nat → List Int) (n : Nat) (d : gT) (v : Int32) : Prop := ∃ bg en ru by_, DY cs d n bg en ru by_ ∧ v = fo (fLost d en) n
theorem LV.u {cs : Nat → List Int} {n : Nat} {d : gT} {v v' : Int32} (hW : WF n d) (h : LV cs n d v) (h' : LV cs n d v') : v = v' := by
  obtain ⟨b1, e1, r1, y1, h1, rfl⟩ := h
  obtain ⟨b2, e2, r2, y2, h2, rfl⟩ := h'
  have u := DY.u hW h1 h2
  exact fo_c (fun i hi a => by unfold fLost; rw [(u i hi).2.1])
/-- the lessons from the f-th on, then what is lost -/
theorem lf_x {cs : Nat → List Int} {n f fu : Nat} {p1 : Int32} {g d : gT} {L : lT} (h : DC cs n g d) (hf : p1.toInt = (f : Int)) (fn : f ≤ n) : Pc (fX1_lostFrom_8 fu p1 g L) (fun x g1 _ => RF cs d f n g g1 ∧ x = fo (fLost d (g1 44)) n) := by
  unfold fX1_lostFrom_8 fX1_lostFrom_8_l2
  have hn := h.1
  refine pc_loop (fun v => ∃ m : Nat, v.1.toInt = (m : Int) ∧ f ≤ m ∧ m ≤ n ∧ RF cs d f m g v.2.1) (fun k2 hk v hv => ?_) ⟨f, hf, Nat.le_refl _, fn, fun i h1 h2 => by omega, fun _ _ => ⟨rfl, rfl, rfl, rfl⟩, fun _ _ _ => rfl⟩
  obtain ⟨v2, g', L'⟩ := v
  obtain ⟨m, hm, fm, mn, hR⟩ := hv
  replace hm : v2.toInt = (m : Int) := hm
  replace hR : RF cs d f m g g' := hR
  show Pc (fX1_lostFrom_8_s2 fu k2 v2 g' L') _
  unfold fX1_lostFrom_8_s2
  have e12 : (g' 1 2).toInt = (n : Int) := by rw [hR.2.2 1 (by decide) (by omega)]; exact hn.1
  refine pc_ite (fun c => ?_) (fun c => ?_)
  · have c := icc_le e12 hm c
    rw [show m = n by omega] at hR
    refine pc_cb (lost_x (h.c hR.2.2)) (fun x2 g3 L4 e => pc_some ⟨?_, ?_⟩)
    · rw [e.1]; exact hR
    · rw [e.1]; exact e.2
  · have c := icc_nle e12 hm c
    refine pc_cb (rf_s h hm (by omega) fm hR) (fun x g3 L4 e3 => hk _ ⟨m + 1, ?_, by omega, by omega, e3⟩)
    show (v2 + 1).toInt = _
    rw [ic_addc hm (n := 1) rfl (by omega) (by omega)]; omega
theorem lv_x {cs : Nat → List Int} {n fu : Nat} {g d : gT} {L : lT} (h : DC cs n g d) : Pc (fX1_lostFrom_8 fu 0 g L) (fun x g1 _ => LV cs n d x ∧ ∀ k, k ≠ 21 → (k < 43 ∨ 48 < k) → g1 k = g k) :=
  pc_mo (lf_x h (f := 0) rfl (Nat.zero_le _)) (fun x g1 _ e => ⟨⟨_, _, _, _, fun i hi => e.1.1 i (Nat.zero_le _) hi, e.2⟩, e.1.2.2⟩)
theorem lv_m {cs : Nat → List Int} {n fu : Nat} {d : gT} {L : lT} (h : MD cs n d) : Pc (fX12_lost fu d L) (fun x g1 _ => LV cs n d x ∧ Em d g1) := by
  unfold fX12_lost
  refine pc_cb (wk_m h) (fun y g2 L2 e => pc_mo (lost_m e.2 h.1.1 h.1.2) (fun x g3 _ q => ?_))
  rw [q.1]
  exact ⟨⟨_, _, _, _, e.1, q.2⟩, e.2⟩
/-- another rule in force -/
theorem DC.rule {cs : Nat → List Int} {n : Nat} {g d : gT} {r : Int32} (h : DC cs n g d) (hr : r = -1 ∨ (0 ≤ r.toInt ∧ r.toInt < (g 3 3).toInt)) : DC cs n (upd2 g 6 11 r) (upd2 d 0 52 r) := by
  obtain ⟨a1, a3, a4, a5, a6, a7, a8, a9, a10⟩ := h
  have ek : ∀ k, k ≠ 6 → upd2 g 6 11 r k = g k := fun k hk => funext fun _ => upd2_nk hk
  have dk : ∀ k, k ≠ 0 → upd2 d 0 52 r k = d k := fun k hk => funext fun _ => upd2_nk hk
  have d0 : ∀ j, j ≠ 52 → upd2 d 0 52 r 0 j = d 0 j := fun j hj => upd2_nj hj
  refine ⟨by rw [ek 1 (by decide)]; exact a1, fun i hi => ⟨(a3 i hi).1.c (ek _ (by omega)) (ek _ (by omega)) (fun k x _ => dk k (by omega)), (a3 i hi).2.c (ek _ (by decide)) (ek _ (by decide)) (ek _ (by decide)) (ek _ (by decide)) (dk 12 (by decide))⟩, ?_, wf_e a5 (dk 5 (by decide)) (dk 6 (by decide)) (dk 8 (by decide)) (dk 9 (by decide)), ?_, ⟨?_, ?_⟩, ?_, ?_, ?_⟩
  · rw [ek 1 (by decide), d0 3 (by decide), d0 4 (by decide)]; exact a4
  · rw [dk 12 (by decide), dk 8 (by decide)]; exact a6
  · rw [upd2_at, upd2_at]
  · rw [upd2_at, ek 3 (by decide)]; exact hr
  · rw [ek 3 (by decide), ek 20 (by decide), ek 19 (by decide)]; exact a8
  · rw [ek 8 (by decide), d0 60 (by decide)]; exact a9
  · rw [ek 8 (by decide), d0 61 (by decide)]; exact a10
/-- the codes of all rules, in the reference -/
def MR (cs : Nat → List Int) (d : gT) : Prop := ∀ r : Nat, (r : Int) < (d 0 2).toInt → ∃ p : Nat, (d 10 r).toInt = (p : Int) ∧ At (d 11) p (enc (cs r) ++ [0]) ∧ rp (cs r) 0 1
theorem dc_all {g d : gT} (h : CR g d) : ∃ cs, DC cs (d 0 1).toInt.toNat g d ∧ MD cs (d 0 1).toInt.toNat d ∧ MR cs d := by
  obtain ⟨⟨hp, h⟩, hw, ⟨hr, -⟩, -⟩ := h
  obtain ⟨-, hI, hJ, -, -, -, ⟨k1, k2, -⟩, -⟩ := hp
  obtain ⟨⟨d1, d2, d3, cs, o, p, r1, r2⟩, ⟨u1, u2, -⟩, -, -, f1, f2, f3, f4⟩ := h
  have q1 := hI 0 1 0 12 rfl
  have q2 := hI 0 2 0 4 rfl
  have q4 := hI 0 4 1 99 rfl
  have q52 := hI 0 52 (-1) 3 rfl
  have j52 := hJ.2.1
  have l8 : ∀ i, 0 ≤ (d 8 i).toInt ∧ (d 8 i).toInt ≤ 6 := fun i => hI 8 i 0 6 rfl
  have c52 : d 0 52 = -1 ∨ (0 ≤ (d 0 52).toInt ∧ (d 0 52).toInt < (d 0 2).toInt) := by
    by_cases c : (d 0 52).toInt = -1
    · exact Or.inl (ic_eq.mpr c)
    · exact Or.inr (by omega)
  have mr : MR cs d := fun r hr => by
    obtain ⟨-, -, a3, a4, a5⟩ := r2 r (by omega)
    exact ⟨p r, a3, At_i a4, a5⟩
  refine ⟨cs, ⟨⟨by rw [k1]; omega, by omega⟩, fun i hi => ⟨d1 i (by omega), u1 i (by omega)⟩, ⟨d2, d3, q4.1⟩, hw, fun i hi => ⟨hr i (by omega), l8 i⟩, ⟨u2, by rw [k2]; exact c52⟩, fun r hr => ?_, fun i hi => ?_, by rw [f2, f4]⟩, ⟨⟨by omega, by omega⟩, hw, fun i _ => l8 i, ?_⟩, mr⟩
  · rw [k2] at hr
    obtain ⟨a1, a2, -, -, a5⟩ := r2 r (by omega)
    exact ⟨o r, r1 r (by omega), by rw [r1 (r + 1) (by omega), a1]; omega, At_d a2, a5⟩
  · rw [f1, f3]
    exact ⟨fun h => absurd h (stb_1 i (by omega)), fun h => absurd h (stb_0 i (by omega))⟩
  · rcases c52 with c | c
    · exact Or.inl c
    · obtain ⟨q, a1, a2⟩ := mr (d 0 52).toInt.toNat (by omega)
      exact Or.inr ⟨(d 0 52).toInt.toNat, q, by omega, a1, a2⟩
theorem MR.d {cs : Nat → List Int} {d e : gT} (h : MR cs d) (he : E0 d e) : MR cs e := by
  unfold MR
  rw [he.k (show 10 ≠ 0 by decide), he.k (show 11 ≠ 0 by decide), he 0 2 (fun x => absurd x.2 (by decide))]
  exact h
theorem MD.rule {cs : Nat → List Int} {n : Nat} {d : gT} {r : Int32} (h : MD cs n d) (hm : MR cs d) (hr : r = -1 ∨ (0 ≤ r.toInt ∧ r.toInt < (d 0 2).toInt)) : MD cs n (upd2 d 0 52 r) := by
  obtain ⟨a1, a2, a3, -⟩ := h
  have dk : ∀ k, k ≠ 0 → upd2 d 0 52 r k = d k := fun k hk => funext fun _ => upd2_nk hk
  refine ⟨by rw [upd2_nj (by decide)]; exact a1, wf_e a2 (dk 5 (by decide)) (dk 6 (by decide)) (dk 8 (by decide)) (dk 9 (by decide)), by rw [dk 8 (by decide)]; exact a3, ?_⟩
  rw [upd2_at, dk 10 (by decide), dk 11 (by decide)]
  rcases hr with c | c
  · exact Or.inl c
  · obtain ⟨p, b1, b2⟩ := hm r.toInt.toNat (by omega)
    exact Or.inr ⟨r.toInt.toNat, p, by omega, b1, b2⟩
/-- what is lost by a rule -/
theorem lr_x {cs : Nat → List Int} {n fu : Nat} {r : Int32} {g d : gT} {L : lT} (h : DC cs n g d) (hr : r = -1 ∨ (0 ≤ r.toInt ∧ r.toInt < (g 3 3).toInt)) : Pc (fX10_lostByRule_9 fu r g L) (fun x g1 _ => LV cs n (upd2 d 0 52 r) x ∧ ∀ k, k ≠ 21 → (k < 43 ∨ 48 < k) → g1 k = g k) := by
  unfold fX10_lostByRule_9
  refine pc_lti (fun x1 e1 => pc_st (fun g2 e2 => pc_cb (lv_x (by rw [e2]; exact h.rule hr)) (fun x3 g4 L5 e4 => pc_st (fun g7 e7 => pc_some ⟨e4.1, fun k h1 h2 => ?_⟩))))
  by_cases hk : k = 6
  · subst hk
    rw [e7, upd2_k, e4.2 6 (by decide) (by omega), e2, upd2_k, e1]
    funext j
    by_cases hj : j = 11
    · rw [hj, upd_at]
    · rw [upd_ne hj, upd_ne hj]
  · rw [e7]
    funext j
    rw [upd2_nk hk, e4.2 k h1 h2, e2, upd2_nk hk]
theorem lr_m {cs : Nat → List Int} {n fu : Nat} {r : Int32} {d : gT} {L : lT} (h : MD cs n d) (hm : MR cs d) (hr : r = -1 ∨ (0 ≤ r.toInt ∧ r.toInt < (d 0 2).toInt)) : Pc (fX12_lostBy fu r d L) (fun x g1 _ => LV cs n (upd2 d 0 52 r) x ∧ Em d g1) := by
  unfold fX12_lostBy
  refine pc_lti (fun x1 e1 => pc_st (fun g2 e2 => pc_cb (lv_m (cs := cs) (n := n) (by rw [e2]; exact h.rule hm hr)) (fun x3 g4 L5 e4 => pc_st (fun g7 e7 => pc_some ⟨by rw [e2] at e4; exact e4.1, fun k hk => ?_⟩))))
  by_cases h0 : k = 0
  · subst h0
    rw [e7, upd2_k, e4.2 0 (by omega), e2, upd2_k, e1]
    funext j
    by_cases hj : j = 52
    · rw [hj, upd_at]
    · rw [upd_ne hj, upd_ne hj]
  · rw [e7]
    funext j
    rw [upd2_nk h0, e4.2 k hk, e2, upd2_nk h0]
theorem cr_compare {fu : Nat} {p1 : Int32} {g gm g1 g2 : gT} {L Lm L1 L2 : lT} {rx : Except String Int32} {rm : Int32} (h : CR g gm) (e1 : fX11_compare_0 fu p1 g L = some (rx, (g1, L1))) (e2 : fX12_compare fu p1 gm Lm = some (rm, (g2, L2))) : (rx = .ok rm ∧ g2 0 0 = 0) ∨ (rx = .error NSE ∧ g2 0 0 = 1) := by
  obtain ⟨k1, k2, -⟩ := h.1.1.2.2.2.2.2.2.1
  have a0 : upd2 gm 0 0 0 0 0 = 0 := upd2_at
  have a2 : upd2 gm 0 0 0 0 2 = gm 0 2 := rfl
  have im : (-1 : Int32).toInt = -1 := rfl
  unfold fX11_compare_0 fX11_isRuleOrNone_0 fX11_isRuleOrNone_0_p23 fX11_isRuleOrNone_0_p24 at e1
  unfold fX12_compare fX12_compare_p23 fX12_compare_p24 fX12_compare_p40 at e2
  unfold sti at e2
  have e2 : (if p1 < -1 then _ else if gm 0 2 ≤ p1 then _ else _) = some (rm, (g2, L2)) := e2
  rw [k2] at e1
  have bad : ∀ {K : Option (Except String Int32 × zS)} {K' : Option (Int32 × zS)}, (cb (ckb 0 (some ((0 : Int32), ((g, L) : zS)))) (fun x1 g2 L3 => if x1 = 0 then some ((.error "java/util/NoSuchElementException" : Except String Int32), ((g2, L3) : zS)) else cb (fX10_lostByRule_9 fu p1 g2 L3) (fun x6 g7 L8 => some (.ok x6, (g7, L8))))) = some (rx, (g1, L1)) → (cb (fX12_right fu 0 1 (upd2 gm 0 0 0) Lm) (fun x2 g3 L4 => if x2 = 0 then some ((0 : Int32), ((g3, L4) : zS)) else cb (fX12_lostBy fu p1 g3 L4) (fun x7 g8 L9 => some (x7, (g8, L9))))) = some (rm, (g2, L2)) → (rx = .ok rm ∧ g2 0 0 = 0) ∨ (rx = .error NSE ∧ g2 0 0 = 1) := by
    intro _ _ u v
    rw [ckb0, cbs, if_pos rfl] at u
    rw [right0 a0 (by decide), cbs, if_pos rfl] at v
    cases u; cases v
    exact Or.inr ⟨rfl, upd2_at⟩
  by_cases c1 : p1 < -1
  · rw [if_pos c1] at e1 e2
    exact bad (K := none) (K' := none) e1 e2
  rw [if_neg c1] at e1 e2
  by_cases c2 : gm 0 2 ≤ p1
  · rw [if_pos c2] at e1 e2
    exact bad (K := none) (K' := none) e1 e2
  rw [if_neg c2] at e1 e2
  have c1 := icc_nlt (m := p1.toInt) rfl im c1
  have c2 := icc_nle (m := (gm 0 2).toInt) (n := p1.toInt) rfl rfl c2
  have hr : p1 = -1 ∨ (0 ≤ p1.toInt ∧ p1.toInt < (gm 0 2).toInt) := by
    by_cases c : p1.toInt = -1
    · exact Or.inl (ic_eq.mpr c)
    · exact Or.inr (by omega)
  obtain ⟨cs, hX, hM, hR⟩ := dc_all h
  rw [ckb1, cbs, if_neg (by decide)] at e1
  rw [right1 a0, cbs, if_neg (by decide)] at e2
  obtain ⟨xa, ga, La, ea, e1⟩ := cb_some e1
  obtain ⟨xb, gb, Lb, eb, e2⟩ := cb_some e2
  cases e1; cases e2
  have u := lr_x (hX.d (e0_u (x := 0))) (by rw [k2]; exact hr) _ _ _ ea
  have v := lr_m (hM.d (e0_u (x := 0))) (hR.d (e0_u (x := 0))) hr _ _ _ eb
  refine Or.inl ⟨?_, by rw [v.2 0 (by omega)]; exact a0⟩
  rw [LV.u ((hM.d e0_u).rule (hR.d e0_u) hr).2.1 u.1 v.1]
