/-! ===== other minutes held, in both ===== -/
theorem DC.now {cs : Nat → List Int} {n : Nat} {g g' d d' : gT} (h : DC cs n g d) (ek : ∀ k, (k < 9 ∨ (18 < k ∧ k < 21) ∨ 56 < k) → g' k = g k) (dk : ∀ k, k ≠ 12 → k < 29 → d' k = d k) (hh : ∀ i, i < n → HC i 25 12 g' d') (hr : ∀ i, i < n → 0 ≤ (d' 12 (24 + i)).toInt ∧ (d' 12 (24 + i)).toInt ≤ 9) : DC cs n g' d' := by
  obtain ⟨a1, a3, a4, a5, a6, a7, a8, a9, a10⟩ := h
  have n12 := a1.2
  have e1 : g' 1 = g 1 := ek 1 (by omega)
  have e3 : g' 3 = g 3 := ek 3 (by omega)
  have e6 : g' 6 = g 6 := ek 6 (by omega)
  have e8 : g' 8 = g 8 := ek 8 (by omega)
  have d0 : d' 0 = d 0 := dk 0 (by decide) (by decide)
  have d8 : d' 8 = d 8 := dk 8 (by decide) (by decide)
  refine ⟨by rw [e1]; exact a1, fun i hi => ⟨(a3 i hi).1.c (ek _ (by omega)) (ek _ (by omega)) (fun k x y => dk k (by omega) (by omega)), hh i hi⟩, ?_, wf_e a5 (dk 5 (by decide) (by decide)) (dk 6 (by decide) (by decide)) d8 (dk 9 (by decide) (by decide)), fun i hi => ⟨hr i hi, by rw [d8]; exact (a6 i hi).2⟩, ?_, ?_, ?_, ?_⟩
  · rw [e1, d0]; exact a4
  · rw [e6, e3, d0]; exact a7
  · rw [e3, ek 20 (by omega), ek 19 (by omega)]; exact a8
  · rw [e8, d0]; exact a9
  · rw [e8, d0]; exact a10
theorem DC.c3 {cs : Nat → List Int} {n : Nat} {g g' d : gT} (h : DC cs n g d) (ek : ∀ k, (k < 9 ∨ (18 < k ∧ k < 21) ∨ (24 < k ∧ k < 29) ∨ 56 < k) → g' k = g k) : DC cs n g' d :=
  h.now (fun k a => ek k (by omega)) (fun _ _ _ => rfl) (fun i hi => (h.2.1 i hi).2.c (ek _ (by omega)) (ek _ (by omega)) (ek _ (by omega)) (ek _ (by omega)) rfl) (fun i hi => (h.2.2.2.2.1 i hi).1)
theorem MD.now {cs : Nat → List Int} {n : Nat} {d d' : gT} (h : MD cs n d) (dk : ∀ k, k ≠ 12 → k < 29 → d' k = d k) : MD cs n d' := by
  unfold MD WF
  rw [dk 0 (by decide) (by decide), dk 5 (by decide) (by decide), dk 6 (by decide) (by decide), dk 8 (by decide) (by decide), dk 9 (by decide) (by decide), dk 10 (by decide) (by decide), dk 11 (by decide) (by decide)]
  exact h
/-! ===== pause answers alike ===== -/
/-- gaps of those that begin at t or later, among the first n, are longer -/
def gp (d : gT) (n : Nat) (t mins : Int32) : gT := fun k j => if k = 12 ∧ 12 ≤ j ∧ j < 12 + n ∧ ¬ d 1 (j - 12) < t then d 12 j + mins else d k j
theorem gp_k {d : gT} {n k : Nat} {t mins : Int32} (h : k ≠ 12) : gp d n t mins k = d k := funext fun j => if_neg (fun hh => h hh.1)
theorem gp_o {d : gT} {n j : Nat} {t mins : Int32} (h : j < 12 ∨ 12 + n ≤ j) : gp d n t mins 12 j = d 12 j := if_neg (fun hh => by omega)
theorem gp_g {d : gT} {n i : Nat} {t mins : Int32} (h : i < n) : gp d n t mins 12 (12 + i) = if d 1 i < t then d 12 (12 + i) else d 12 (12 + i) + mins := by
  show (if (12 : Nat) = 12 ∧ 12 ≤ 12 + i ∧ 12 + i < 12 + n ∧ ¬ d 1 (12 + i - 12) < t then _ else _) = _
  rw [show 12 + i - 12 = i by omega]
  by_cases c : d 1 i < t
  · rw [if_neg (fun hh => hh.2.2.2 c), if_pos c]
  · rw [if_pos ⟨rfl, by omega, by omega, c⟩, if_neg c]
theorem gp_0 {d : gT} {t mins : Int32} : gp d 0 t mins = d := by
  funext k j
  exact if_neg (fun hh => by omega)
theorem wf_gp {n m : Nat} {d : gT} {t mins : Int32} (hW : WF n d) : WF n (gp d m t mins) := wf_e hW (gp_k (by decide)) (gp_k (by decide)) (gp_k (by decide)) (gp_k (by decide))
/-- what is lost by a pause ahead of one of the first m -/
def QGa (cs : Nat → List Int) (n : Nat) (d : gT) (mins : Int32) (m : Nat) (r : Int) (v : Int32) : Prop := ∃ l : Nat, l < m ∧ r = (d 1 l).toInt ∧ LV cs n (gp d n (d 1 l) mins) v
theorem qg_0 {cs : Nat → List Int} {n : Nat} {d : gT} {mins : Int32} {r : Int} {v : Int32} : ¬ QGa cs n d mins 0 r v := fun ⟨_, h, _⟩ => absurd h (Nat.not_lt_zero _)
theorem qg_s {cs : Nat → List Int} {n m : Nat} {d : gT} {mins x : Int32} (hW : WF n d) (hx : LV cs n (gp d n (d 1 m) mins) x) : ∀ r v, Ad (QGa cs n d mins m) (d 1 m).toInt x r v ↔ QGa cs n d mins (m + 1) r v := fun r v => by
  constructor
  · intro hh
    rcases hh with ⟨l, a, b, c⟩ | ⟨a, b⟩
    · exact ⟨l, by omega, b, c⟩
    · rw [a, b]; exact ⟨m, by omega, rfl, hx⟩
  · intro ⟨l, a, b, c⟩
    by_cases e : l = m
    · rw [e] at b c
      exact Or.inr ⟨b, LV.u (wf_gp hW) c hx⟩
    · exact Or.inl ⟨l, by omega, b, c⟩
theorem pause_x {cs : Nat → List Int} {n fu : Nat} {p1 p2 : Int32} {g d : gT} {L : lT} (h : DC cs n g d) : Pc (fX10_leastByPause_9 fu p1 p2 g L) (fun x _ _ => TO (QGa cs n d p1 n) p2 x) := by
  unfold fX10_leastByPause_9
  refine pc_cb clear_x (fun x1 g2 L3 e2 => ?_)
  unfold fX10_leastByPause_9_l9
  have hW := h.2.2.2.1
  have hn := h.1
  have n12 := h.1.2
  refine pc_loop (fun v => ∃ m : Nat, v.1.toInt = (m : Int) ∧ m ≤ n ∧ (∀ k, k ≠ 26 → k ≠ 13 → k ≠ 21 → (k < 43 ∨ 48 < k) → v.2.1 k = g k) ∧ (∀ j, j < 12 → v.2.1 26 j = g 26 j) ∧ LO (QGa cs n d p1 m) v.2.1) (fun k9 hk v hv => ?_) ⟨0, rfl, by omega, fun k _ a _ _ => e2.2 k a, fun j _ => by show g2 26 j = _; rw [e2.2 26 (by decide)], Or.inl ⟨e2.1, fun _ _ => qg_0⟩⟩
  obtain ⟨v3, g', L'⟩ := v
  obtain ⟨m, hm, mn, ek, e26, hl⟩ := hv
  replace hm : v3.toInt = (m : Int) := hm
  replace ek : ∀ k, k ≠ 26 → k ≠ 13 → k ≠ 21 → (k < 43 ∨ 48 < k) → g' k = g k := ek
  replace e26 : ∀ j, j < 12 → g' 26 j = g 26 j := e26
  replace hl : LO (QGa cs n d p1 m) g' := hl
  show Pc (fX10_leastByPause_9_s9 fu p1 p2 k9 v3 g' L') _
  unfold fX10_leastByPause_9_s9 fX10_lessonCount_9
  rw [ek 1 (by decide) (by decide) (by decide) (by omega), cbs]
  refine pc_ite (fun c => ?_) (fun c => ?_)
  · have c := icc_le hn.1 hm c
    have em : m = n := by omega
    rw [em] at hl
    exact pc_cb (told_o hl) (fun x g1 L1 e => pc_some e.2)
  · have c := icc_nle hn.1 hm c
    have m' : m < n := by omega
    have ei : v3.toNatClampNeg = m := by rw [nc, hm]; omega
    rw [ei, show m % 12 = m by omega]
    refine pc_ck (fun _ _ => pc_ltn (fun q eq => ?_))
    subst eq
    refine pc_lti (fun x15 e15 => pc_cb rs_addGap (fun _ g17 L18 e17 => ?_))
    have d15 : x15 = d 1 m := by rw [e15, ek (57 + m) (by omega) (by omega) (by omega) (by omega)]; exact (h.2.1 m m').1.1.1
    have f1 : g' 1 = g 1 := ek 1 (by decide) (by decide) (by decide) (by omega)
    have f57 : ∀ j, j < n → g' (57 + j) 3 = d 1 j := fun j hj => by rw [ek (57 + j) (by omega) (by omega) (by omega) (by omega)]; exact (h.2.1 j hj).1.1.1
    have s26 : ∀ j, j < n → g17 26 j = gp d n (d 1 m) p1 12 (12 + j) := fun j hj => by
      rw [e17.1 j (by omega), gp_g hj, f57 j hj, f1, hn.1, d15, e26 j (by omega), (h.2.1 j hj).2.2.1]
      by_cases cc : d 1 j < d 1 m
      · rw [if_pos cc, if_neg (fun hh => hh.2 cc)]
      · rw [if_neg cc, if_pos ⟨by omega, cc⟩]
    have hD : DC cs n g17 (gp d n (d 1 m) p1) := by
      refine h.now (fun k a => (e17.2 k (by omega)).trans (ek k (by omega) (by omega) (by omega) (by omega))) (fun k hk _ => gp_k hk) (fun i hi => ?_) (fun i hi => ?_)
      · obtain ⟨z1, z2, z3, z4⟩ := (h.2.1 i hi).2
        refine ⟨?_, s26 i hi, ?_, ?_⟩
        · rw [e17.2 25 (by decide), ek 25 (by decide) (by decide) (by decide) (by omega), gp_o (by omega)]; exact z1
        · show g17 27 i = _
          rw [e17.2 27 (by decide), ek 27 (by decide) (by decide) (by decide) (by omega), gp_o (by omega)]; exact z3
        · show g17 28 i = _
          rw [e17.2 28 (by decide), ek 28 (by decide) (by decide) (by decide) (by omega), gp_o (by omega)]; exact z4
      · rw [gp_o (by omega)]; exact (h.2.2.2.2.1 i hi).1
    refine pc_cb (lv_x hD) (fun x20 g21 L22 e21 => ?_)
    have hl' : LO (QGa cs n d p1 m) g21 := hl.c ((e21.2 13 (by decide) (by omega)).trans (e17.2 13 (by decide))) (fun _ _ => Iff.rfl)
    have h15 : x15.toInt = (d 1 m).toInt := by rw [d15]
    refine pc_cb (offer_o h15 hl') (fun _ g25 L26 e25 => pc_cb rs_addGap (fun _ g29 L30 e29 => hk _ ⟨m + 1, ?_, by omega, fun k w x y z => ?_, fun j hj => ?_, ?_⟩))
    · show (v3 + 1).toInt = _
      rw [ic_addc hm (n := 1) rfl (by omega) (by omega)]; omega
    · show g29 k = g k
      rw [e29.2 k w, e25.2 k x, e21.2 k y z, e17.2 k w, ek k w x y z]
    · show g29 26 j = g 26 j
      have t1 : g25 1 = g' 1 := by rw [e25.2 1 (by decide), e21.2 1 (by decide) (by omega), e17.2 1 (by decide)]
      have t57 : g25 (57 + j) = g' (57 + j) := by rw [e25.2 _ (by omega), e21.2 _ (by omega) (by omega), e17.2 _ (by omega)]
      have t26 : g25 26 = g17 26 := by rw [e25.2 26 (by decide), e21.2 26 (by decide) (by omega)]
      rw [e29.1 j hj, t1, t57, t26, e17.1 j hj, ← e26 j hj]
      by_cases cc : (j : Int) < (g' 1 2).toInt ∧ ¬ g' (57 + j) 3 < x15
      · rw [if_pos cc, if_pos cc, Int32.add_assoc, Int32.add_right_neg, Int32.add_zero]
      · rw [if_neg cc, if_neg cc]
    · show LO (QGa cs n d p1 (m + 1)) g29
      exact e25.1.c (e29.2 13 (by decide)) (qg_s hW e21.1)
theorem pause_m {cs : Nat → List Int} {n fu : Nat} (hfu : 1180591620717411303424 ≤ fu) {p1 p2 : Int32} {g d : gT} {L : lT} (hM : MD cs n d) (hf : ∀ l, l < n → 0 ≤ (d 1 l).toInt) (e : ∀ k, k < 29 → g k = d k) (e42 : ∀ j, j < 48 → g 42 j = d 12 j) : Pc (fX12_pause_l51 fu p1 p2 (-1) 0 0 g L) (fun x g1 _ => g1 0 = d 0 ∧ TO (QGa cs n d p1 n) p2 x) := by
  unfold fX12_pause_l51
  have hW := hM.2.1
  have n12 := hM.1.2
  refine pc_loop (fun v => ∃ m : Nat, v.2.2.1.toInt = (m : Int) ∧ m ≤ n ∧ (∀ k, k < 29 → v.2.2.2.1 k = d k) ∧ (∀ j, j < 48 → v.2.2.2.1 42 j = d 12 j) ∧ MO (QGa cs n d p1 m) v.1 v.2.1) (fun k51 hk v hv => ?_) ⟨0, rfl, by omega, e, e42, Or.inl ⟨rfl, fun _ _ => qg_0⟩⟩
  obtain ⟨v3, v4, v5, g', L'⟩ := v
  obtain ⟨m, hm, mn, e, e42, hl⟩ := hv
  replace hm : v5.toInt = (m : Int) := hm
  replace e : ∀ k, k < 29 → g' k = d k := e
  replace e42 : ∀ j, j < 48 → g' 42 j = d 12 j := e42
  replace hl : MO (QGa cs n d p1 m) v3 v4 := hl
  show Pc (fX12_pause_s51 fu p1 p2 k51 v3 v4 v5 g' L') _
  unfold fX12_pause_s51 fX12_pause_p191 fX12_pause_p197
  have e01 : (g' 0 1).toInt = (n : Int) := by rw [e 0 (by omega)]; exact hM.1.1
  refine pc_ite (fun c => ?_) (fun c => ?_)
  · have c := icc_le e01 hm c
    have em : m = n := by omega
    rw [em] at hl
    rcases hl with ⟨l1, l2⟩ | ⟨l1, l2⟩
    · rw [if_pos l1]
      exact pc_some ⟨e 0 (by omega), Or.inl ⟨l2, l1⟩⟩
    · rw [if_neg l1]
      exact pc_ite (fun c => pc_some ⟨e 0 (by omega), Or.inr ⟨_, _, l2, fun _ => rfl, fun hh => absurd c hh⟩⟩) (fun c => pc_some ⟨e 0 (by omega), Or.inr ⟨_, _, l2, fun hh => absurd hh c, fun _ => rfl⟩⟩)
  have c := icc_nle e01 hm c
  have m' : m < n := by omega
  have ei : v5.toNatClampNeg = m := by rw [nc, hm]; omega
  unfold fX12_pause_l63
  refine pc_loop (fun v => ∃ q : Nat, v.1.toInt = (q : Int) ∧ q ≤ n ∧ (∀ k, k < 29 → v.2.1 k = gp d q (d 1 m) p1 k) ∧ (∀ j, j < 48 → v.2.1 42 j = d 12 j)) (fun k63 hk2 v hv => ?_) ⟨0, rfl, by omega, fun k hk => by rw [gp_0]; exact e k hk, e42⟩
  obtain ⟨v6, g4, L4⟩ := v
  obtain ⟨q, hq, qn, e4, e42⟩ := hv
  replace hq : v6.toInt = (q : Int) := hq
  replace e4 : ∀ k, k < 29 → g4 k = gp d q (d 1 m) p1 k := e4
  replace e42 : ∀ j, j < 48 → g4 42 j = d 12 j := e42
  have e4k : ∀ k, k ≠ 12 → k < 29 → g4 k = d k := fun k a b => by rw [e4 k b, gp_k a]
  have eq6 : v6.toNatClampNeg = q := by rw [nc, hq]; omega
  show Pc (fX12_pause_s63 fu k51 p1 p2 v3 v4 v5 k63 v6 g4 L4) _
  unfold fX12_pause_s63
  have e01 : (g4 0 1).toInt = (n : Int) := by rw [e4k 0 (by decide) (by omega)]; exact hM.1.1
  refine pc_ite (fun c => ?_) (fun c => ?_)
  · have c := icc_le e01 hq c
    have em : q = n := by omega
    rw [em] at e4
    refine pc_cb (lv_m (cs := cs) (n := n) ((hM.now (d' := gp d n (d 1 m) p1) (fun k a _ => gp_k a)).t e4)) (fun x24 g25 L26 e25 => pc_cb (pc_ex (uX12_copies_42_12 fu hfu _ _)) (fun _ g29 L30 e29 => ?_))
    have p24 : LV cs n (gp d n (d 1 m) p1) x24 := e25.1.t e4
    have r29 : ∀ k, k < 29 → g29 k = d k := by
      intro k hk
      by_cases h12 : k = 12
      · subst h12
        funext j
        by_cases hj : j < 48
        · rw [e29, cpd_at hj, e25.2 42 (by omega)]; exact e42 j hj
        · rw [e29, cpd_hi hj, e25.2 12 (by omega), e4 12 (by omega), gp_o (by omega)]
      · rw [e29, cpd_ne h12, e25.2 k (by omega), e4k k h12 hk]
    have r42 : ∀ j, j < 48 → g29 42 j = d 12 j := fun j hj => by rw [e29, cpd_ne (by decide), e25.2 42 (by omega)]; exact e42 j hj
    have es : ∀ r v, Ad (QGa cs n d p1 m) (d 1 m).toInt x24 r v ↔ QGa cs n d p1 (m + 1) r v := qg_s hW p24
    have ew : (v5 + 1).toInt = ((m + 1 : Nat) : Int) := by rw [ic_addc hm (n := 1) rfl (by omega) (by omega)]; omega
    have g1m : g29 1 m = d 1 m := by rw [r29 1 (by omega)]
    have take : BO (Ad (QGa cs n d p1 m) (d 1 m).toInt x24) (d 1 m).toInt x24 → Pc (fX12_pause_p164 fu k51 p1 p2 v5 x24 g29 L30) (fun x g1 _ => g1 0 = d 0 ∧ TO (QGa cs n d p1 n) p2 x) := fun hh => by
      unfold fX12_pause_p164 fX12_pause_p176
      rw [ei, g1m]
      exact pc_ck (fun _ _ => pc_lti (fun x32 e32 => hk _ ⟨m + 1, ew, by omega, r29, r42, (mo_new (by rw [e32]) (hf m m') hh).c es⟩))
    have keep : MO (Ad (QGa cs n d p1 m) (d 1 m).toInt x24) v3 v4 → Pc (fX12_pause_p176 fu k51 p1 p2 v3 v4 v5 g29 L30) (fun x g1 _ => g1 0 = d 0 ∧ TO (QGa cs n d p1 n) p2 x) := fun hh => by
      unfold fX12_pause_p176
      exact hk _ ⟨m + 1, ew, by omega, r29, r42, hh.c es⟩
    rcases hl with ⟨l1, l2⟩ | ⟨l1, l2⟩
    · rw [if_pos l1]
      exact take (bo_one l2)
    · rw [if_neg l1]
      refine pc_ite (fun c1 => keep (Or.inr ⟨l1, bo_keep l2 (Or.inl (ic_lt.mp c1))⟩)) (fun c1 => ?_)
      have c1 := icc_nlt (m := v4.toInt) (n := x24.toInt) rfl rfl c1
      refine pc_ite (fun c2 => ?_) (fun c2 => ?_)
      · rw [ei, g1m]
        refine pc_ck (fun _ _ => pc_ite (fun c3 => ?_) (fun c3 => ?_))
        · have c3 := ic_lt.mp c3
          exact take (bo_new l2 (Or.inr ⟨by rw [c2], by omega⟩))
        · have c3 := icc_nlt (m := (d 1 m).toInt) (n := v3.toInt) rfl rfl c3
          exact keep (Or.inr ⟨l1, bo_keep l2 (Or.inr ⟨by rw [c2], c3⟩)⟩)
      · have c2 := icc_neq (m := x24.toInt) (n := v4.toInt) rfl rfl c2
        exact take (bo_new l2 (Or.inl (by omega)))
  have c := icc_nle e01 hq c
  have q' : q < n := by omega
  have e12 : (12 + v6).toNatClampNeg = 12 + q := by rw [nc, ic_addc (m := 12) rfl hq (by omega) (by omega)]; omega
  have ew : (v6 + 1).toInt = ((q + 1 : Nat) : Int) := by rw [ic_addc hq (n := 1) rfl (by omega) (by omega)]; omega
  have go : ∀ (t0 : Int32) (La : lT), t0 = (if d 1 q < d 1 m then 0 else p1) → Pc (fX12_pause_p105 fu k51 k63 p1 p2 v3 v4 v5 v6 t0 (g4 12 (12 + q)) (12 + v6) g4 La) (fun x g1 _ => g1 0 = d 0 ∧ TO (QGa cs n d p1 n) p2 x) := by
    intro t0 La ht
    unfold fX12_pause_p105
    rw [e12]
    refine pc_ck (fun _ _ => pc_st (fun g37 e37 => hk2 _ ⟨q + 1, ew, by omega, fun k hk => ?_, fun j hj => ?_⟩))
    · show g37 k = _
      by_cases h12 : k = 12
      · subst h12
        funext j
        by_cases hj : j = 12 + q
        · rw [hj, e37, upd2_at, e4 12 (by omega), gp_o (by omega), gp_g (by omega), ht]
          by_cases cc : d 1 q < d 1 m
          · rw [if_pos cc, if_pos cc, Int32.add_zero]
          · rw [if_neg cc, if_neg cc]
        · rw [e37, upd2_nj hj, e4 12 (by omega)]
          by_cases lo : j < 12 ∨ 12 + q ≤ j
          · rw [gp_o lo, gp_o (by omega)]
          · obtain ⟨i, hi⟩ : ∃ i : Nat, j = 12 + i := ⟨j - 12, by omega⟩
            rw [hi, gp_g (by omega), gp_g (by omega)]
      · funext j
        rw [e37, upd2_nk h12, e4 k hk, gp_k h12, gp_k h12]
    · show g37 42 j = _
      rw [e37, upd2_nk (by decide)]; exact e42 j hj
  rw [e12, eq6, ei, e4k 1 (by decide) (by omega)]
  refine pc_ck (fun _ _ => pc_ck (fun _ _ => pc_ck (fun _ _ => pc_ite (fun cc => go _ _ ?_) (fun cc => go _ _ ?_))))
  · rw [if_pos cc]
  · rw [if_neg cc]
