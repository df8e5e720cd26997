/-! ===== pause, answered ===== -/
abbrev IAE : String := "java/lang/IllegalArgumentException"
theorem xwith1 {fu : Nat} {g : gT} {L : lT} {p lo hi : Int32} (h1 : lo.toInt ≤ p.toInt) (h2 : p.toInt ≤ hi.toInt) : fX11_needWithin fu p lo hi g L = some (.ok (), (g, L)) := by
  unfold fX11_needWithin
  rw [if_neg (fun hh => by have := icc_lt (m := p.toInt) (n := lo.toInt) rfl rfl hh; omega), if_pos (ic_le.mpr h2)]
theorem xwith0 {fu : Nat} {g : gT} {L : lT} {p lo hi : Int32} (h : ¬ (lo.toInt ≤ p.toInt ∧ p.toInt ≤ hi.toInt)) : fX11_needWithin fu p lo hi g L = some (.error IAE, (g, L)) := by
  unfold fX11_needWithin fX11_needWithin_p10
  by_cases c : p < lo
  · rw [if_pos c]
  · rw [if_neg c, if_neg (fun hh => ?_)]
    have c := icc_nlt (m := p.toInt) (n := lo.toInt) rfl rfl c
    exact h ⟨c, ic_le.mp hh⟩
theorem cr_pause {fu : Nat} (hfu : 1180591620717411303424 ≤ fu) {p1 p2 : Int32} {g gm g1 g2 : gT} {L Lm L1 L2 : lT} {rx : Except String Int32} {rm : Int32} (hS : CS g gm) (e1 : fX11_pause_0 fu p1 p2 g L = some (rx, (g1, L1))) (e2 : fX12_pause fu p1 p2 gm Lm = some (rm, (g2, L2))) : (rx = .ok rm ∧ g2 0 0 = 0) ∨ (rx = .error NSE ∧ g2 0 0 = 1) ∨ (rx = .error IAE ∧ g2 0 0 = 2) := by
  obtain ⟨h, hV⟩ := hS
  have a0 : upd2 gm 0 0 0 0 0 = 0 := upd2_at
  unfold fX11_pause_0 at e1
  unfold fX12_pause fX12_pause_p29 at e2
  unfold sti at e2
  have e2 : cb (fX12_isWhat fu p2 1 (upd2 gm 0 0 0) Lm) _ = some (rm, (g2, L2)) := e2
  have i1 : (1 : Int32).toInt = 1 := rfl
  have i2 : (2 : Int32).toInt = 2 := rfl
  by_cases c2 : 0 ≤ p2.toInt ∧ p2.toInt ≤ (1 : Int32).toInt
  rotate_left
  · rw [xwhat0 (fun hh => c2 (by omega))] at e1
    have e1 : some (.error NSE, (g, L)) = some (rx, (g1, L1)) := e1
    rw [what0 a0 c2] at e2
    have e2 : some ((0 : Int32), (upd2 (upd2 gm 0 0 0) 0 0 1, Lm)) = some (rm, (g2, L2)) := e2
    cases e1; cases e2
    exact Or.inr (Or.inl ⟨rfl, upd2_at⟩)
  rw [xwhat1 c2.1 (by omega), cbxs] at e1
  rw [what1 a0 c2.1 c2.2, cbs, if_neg (by decide)] at e2
  by_cases c3 : (1 : Int32).toInt ≤ p1.toInt ∧ p1.toInt ≤ (30 : Int32).toInt
  rotate_left
  · rw [xwith0 c3] at e1
    have e1 : some (.error IAE, (g, L)) = some (rx, (g1, L1)) := e1
    rw [within0 c3, cbs, right0 a0 (by decide), cbs, if_pos rfl] at e2
    cases e1; cases e2
    exact Or.inr (Or.inr ⟨rfl, upd2_at⟩)
  rw [xwith1 c3.1 c3.2, cbxs] at e1
  rw [within1 c3.1 c3.2, cbs, right1 a0, cbs, if_neg (by decide)] at e2
  obtain ⟨xa, ga, La, ea, e1⟩ := cb_some e1
  obtain ⟨xb, gb, Lb, eb, e2⟩ := cb_some e2
  cases e1
  obtain ⟨cs, hX, hM, -⟩ := dc_all h
  have hb := pc_ex (uX12_copies_12_42 fu hfu _ _) _ _ _ eb
  have u := pause_x (hX.d (e0_u (x := 0))) _ _ _ ea
  have v := pause_m hfu (hM.d (e0_u (x := 0))) (fun l hl => by rw [upd2_nk (by decide)]; exact (hV.1.1 l (by omega)).1.1) (fun k hk => by rw [hb, cpd_ne (by omega)]) (fun j hj => by rw [hb, cpd_at hj]) _ _ _ e2
  exact Or.inl ⟨by rw [TO.u u v.2], by rw [v.1]; exact a0⟩
/-! ===== bell answers alike ===== -/
/-- the first n run over by no more than mins -/
def bl (d : gT) (n : Nat) (mins : Int32) : gT := fun k j => if k = 12 ∧ j < n ∧ mins < d 12 j then mins else d k j
theorem bl_k {d : gT} {n k : Nat} {mins : Int32} (h : k ≠ 12) : bl d n mins k = d k := funext fun j => if_neg (fun hh => h hh.1)
theorem bl_o {d : gT} {n j : Nat} {mins : Int32} (h : n ≤ j) : bl d n mins 12 j = d 12 j := if_neg (fun hh => by omega)
theorem bl_i {d : gT} {n i : Nat} {mins : Int32} (h : i < n) : bl d n mins 12 i = if mins < d 12 i then mins else d 12 i := by
  show (if (12 : Nat) = 12 ∧ i < n ∧ mins < d 12 i then _ else _) = _
  by_cases c : mins < d 12 i
  · rw [if_pos ⟨rfl, h, c⟩, if_pos c]
  · rw [if_neg (fun hh => c hh.2.2), if_neg c]
theorem bl_0 {d : gT} {mins : Int32} : bl d 0 mins = d := by
  funext k j
  exact if_neg (fun hh => by omega)
theorem bell_x {cs : Nat → List Int} {n fu : Nat} {p1 : Int32} {g d : gT} {L : lT} (h : DC cs n g d) : Pc (fX10_worthOfBell_9 fu p1 g L) (fun x _ _ => ∃ v w, LV cs n d v ∧ LV cs n (bl d n p1) w ∧ x = v - w) := by
  have hn := h.1
  have n12 := h.1.2
  unfold fX10_worthOfBell_9
  refine pc_cb (lv_x h) (fun x1 g2 L3 e2 => pc_stA (fun g5 e5 => ?_))
  have s49 : ∀ j, j < 12 → g5 49 j = g 25 j := fun j hj => by
    rw [e5, updA_at, cpy_at, if_pos hj, e2.2 25 (by decide) (by omega)]
  have k5 : ∀ k, k ≠ 49 → k ≠ 21 → (k < 43 ∨ 48 < k) → g5 k = g k := fun k a b c => by rw [e5, updA_ne a, e2.2 k b c]
  unfold fX10_worthOfBell_9_l29
  refine pc_loop (fun v => ∃ m : Nat, v.1.toInt = (m : Int) ∧ m ≤ n ∧ (∀ k, k ≠ 25 → k ≠ 49 → k ≠ 21 → (k < 43 ∨ 48 < k) → v.2.1 k = g k) ∧ (∀ j, j < 12 → v.2.1 49 j = g 25 j) ∧ (∀ j, j < 12 → v.2.1 25 j = if j < m then (if p1 < g 25 j then p1 else g 25 j) else g 25 j)) (fun k29 hk v hv => ?_) ⟨0, rfl, by omega, fun k _ a b c => k5 k a b c, s49, fun j hj => by
    show g5 25 j = _
    rw [k5 25 (by decide) (by decide) (by omega), if_neg (Nat.not_lt_zero _)]⟩
  obtain ⟨v3, g', L'⟩ := v
  obtain ⟨m, hm, mn, ek, e49, e25⟩ := hv
  replace hm : v3.toInt = (m : Int) := hm
  replace ek : ∀ k, k ≠ 25 → k ≠ 49 → k ≠ 21 → (k < 43 ∨ 48 < k) → g' k = g k := ek
  replace e49 : ∀ j, j < 12 → g' 49 j = g 25 j := e49
  replace e25 : ∀ j, j < 12 → g' 25 j = if j < m then (if p1 < g 25 j then p1 else g 25 j) else g 25 j := e25
  show Pc (fX10_worthOfBell_9_s29 fu p1 x1 k29 v3 g' L') _
  unfold fX10_worthOfBell_9_s29 fX10_lessonCount_9
  rw [ek 1 (by decide) (by decide) (by decide) (by omega), cbs]
  refine pc_ite (fun c => ?_) (fun c => ?_)
  · have c := icc_le hn.1 hm c
    have em : m = n := by omega
    have hD : DC cs n g' (bl d n p1) := by
      refine h.now (fun k a => ek k (by omega) (by omega) (by omega) (by omega)) (fun k hk _ => bl_k hk) (fun i hi => ?_) (fun i hi => ?_)
      · obtain ⟨z1, z2, z3, z4⟩ := (h.2.1 i hi).2
        refine ⟨?_, ?_, ?_, ?_⟩
        · rw [e25 i (by omega), if_pos (by omega), z1, bl_i hi]
        · show g' 26 i = _
          rw [ek 26 (by decide) (by decide) (by decide) (by omega), bl_o (by omega)]; exact z2
        · show g' 27 i = _
          rw [ek 27 (by decide) (by decide) (by decide) (by omega), bl_o (by omega)]; exact z3
        · show g' 28 i = _
          rw [ek 28 (by decide) (by decide) (by decide) (by omega), bl_o (by omega)]; exact z4
      · rw [bl_o (by omega)]; exact (h.2.2.2.2.1 i hi).1
    exact pc_cb (lv_x hD) (fun x11 g12 L13 e12 => pc_stA (fun g15 e15 => pc_some ⟨x1, x11, e2.1, e12.1, rfl⟩))
  · have c := icc_nle hn.1 hm c
    have ei : v3.toNatClampNeg = m := by rw [nc, hm]; omega
    have ew : (v3 + 1).toInt = ((m + 1 : Nat) : Int) := by rw [ic_addc hm (n := 1) rfl (by omega) (by omega)]; omega
    rw [ei, e49 m (by omega)]
    refine pc_ck (fun _ _ => pc_ck (fun _ _ => pc_st (fun g16 e16 => hk _ ⟨m + 1, ew, by omega, fun k a b c e => ?_, fun j hj => ?_, fun j hj => ?_⟩)))
    · show g16 k = g k
      rw [e16, ← ek k a b c e]; exact funext fun _ => upd2_nk a
    · show g16 49 j = _
      rw [e16, upd2_nk (by decide)]; exact e49 j hj
    · show g16 25 j = _
      rw [e16]
      by_cases q : j = m
      · rw [q, upd2_at, if_pos (show m < m + 1 by omega)]
      · rw [upd2_nj q, e25 j hj]
        by_cases q2 : j < m
        · rw [if_pos q2, if_pos (show j < m + 1 by omega)]
        · rw [if_neg q2, if_neg (show ¬ j < m + 1 by omega)]
theorem bell_m {cs : Nat → List Int} {n fu : Nat} (hfu : 1180591620717411303424 ≤ fu) {p1 v2 : Int32} {g d : gT} {L : lT} (hM : MD cs n d) (e : ∀ k, k < 29 → g k = d k) : Pc (fX12_bell_l41 fu p1 v2 0 g L) (fun x g1 _ => g1 0 = d 0 ∧ ∃ w, LV cs n (bl d n p1) w ∧ x = v2 - w) := by
  unfold fX12_bell_l41
  have n12 := hM.1.2
  refine pc_loop (fun v => ∃ m : Nat, v.1.toInt = (m : Int) ∧ m ≤ n ∧ (∀ k, k < 29 → v.2.1 k = bl d m p1 k)) (fun k41 hk v hv => ?_) ⟨0, rfl, by omega, fun k hk => by rw [bl_0]; exact e k hk⟩
  obtain ⟨v3, g', L'⟩ := v
  obtain ⟨m, hm, mn, e⟩ := hv
  replace hm : v3.toInt = (m : Int) := hm
  replace e : ∀ k, k < 29 → g' k = bl d m p1 k := e
  have ek : ∀ k, k ≠ 12 → k < 29 → g' k = d k := fun k a b => by rw [e k b, bl_k a]
  show Pc (fX12_bell_s41 fu p1 v2 k41 v3 g' L') _
  unfold fX12_bell_s41 fX12_bell_p70
  have e01 : (g' 0 1).toInt = (n : Int) := by rw [ek 0 (by decide) (by omega)]; exact hM.1.1
  have e0 : (0 + v3).toNatClampNeg = m := by rw [nc, ic_addc (m := 0) rfl hm (by omega) (by omega)]; omega
  refine pc_ite (fun c => ?_) (fun c => ?_)
  · have c := icc_le e01 hm c
    have em : m = n := by omega
    rw [em] at e
    refine pc_cb (lv_m (cs := cs) (n := n) ((hM.now (d' := bl d n p1) (fun k a _ => bl_k a)).t e)) (fun x20 g21 L22 e21 => pc_lti (fun x24 e24 => pc_cb (pc_ex (uX12_copies_42_12 fu hfu _ _)) (fun _ g26 L27 e26 => pc_some ⟨?_, x20, e21.1.t e, e24⟩)))
    rw [e26, cpd_ne (by decide), e21.2 0 (by omega), ek 0 (by decide) (by omega)]
  · have c := icc_nle e01 hm c
    have ew : (v3 + 1).toInt = ((m + 1 : Nat) : Int) := by rw [ic_addc hm (n := 1) rfl (by omega) (by omega)]; omega
    have em : g' 12 m = d 12 m := by rw [e 12 (by omega), bl_o (Nat.le_refl _)]
    have step : ∀ x : Int32, x = (if p1 < d 12 m then p1 else d 12 m) → ∀ k, k < 29 → upd2 g' 12 m x k = bl d (m + 1) p1 k := fun x hx k hk => by
      by_cases h12 : k = 12
      · subst h12
        funext j
        by_cases hj : j = m
        · rw [hj, upd2_at, bl_i (by omega)]; exact hx
        · rw [upd2_nj hj, e 12 (by omega)]
          by_cases q : j < m
          · rw [bl_i q, bl_i (by omega)]
          · rw [bl_o (by omega), bl_o (by omega)]
      · funext j
        rw [upd2_nk h12, e k hk, bl_k h12, bl_k h12]
    rw [e0, em]
    refine pc_ck (fun _ _ => pc_ite (fun c1 => hk _ ⟨m + 1, ew, by omega, fun k hk => ?_⟩) (fun c1 => pc_ck (fun _ _ => pc_st (fun g30 e30 => hk _ ⟨m + 1, ew, by omega, fun k hk => ?_⟩))))
    · have c1 := ic_le.mp c1
      have s := step (d 12 m) (by rw [if_neg (fun hh => by have := ic_lt.mp hh; omega)]) k hk
      rw [← em, upd2_s] at s
      exact s
    · show g30 k = _
      have c1 := icc_nle (m := (d 12 m).toInt) (n := p1.toInt) rfl rfl c1
      rw [e30]
      exact step p1 (by rw [if_pos (ic_lt.mpr c1)]) k hk
theorem cr_bell {fu : Nat} (hfu : 1180591620717411303424 ≤ fu) {p1 : Int32} {g gm g1 g2 : gT} {L Lm L1 L2 : lT} {rx : Except String Int32} {rm : Int32} (h : CR g gm) (e1 : fX11_bell_0 fu p1 g L = some (rx, (g1, L1))) (e2 : fX12_bell fu p1 gm Lm = some (rm, (g2, L2))) : (rx = .ok rm ∧ g2 0 0 = 0) ∨ (rx = .error IAE ∧ g2 0 0 = 1) := by
  have a0 : upd2 gm 0 0 0 0 0 = 0 := upd2_at
  unfold fX11_bell_0 at e1
  unfold fX12_bell at e2
  unfold sti at e2
  have e2 : cb (fX12_within fu p1 0 60 (upd2 gm 0 0 0) Lm) _ = some (rm, (g2, L2)) := e2
  by_cases c3 : (0 : Int32).toInt ≤ p1.toInt ∧ p1.toInt ≤ (60 : Int32).toInt
  rotate_left
  · rw [xwith0 c3] at e1
    have e1 : some (.error IAE, (g, L)) = some (rx, (g1, L1)) := e1
    rw [within0 c3, cbs, right0 a0 (by decide), cbs, if_pos rfl] at e2
    cases e1; cases e2
    exact Or.inr ⟨rfl, upd2_at⟩
  rw [xwith1 c3.1 c3.2, cbxs] at e1
  rw [within1 c3.1 c3.2, cbs, right1 a0, cbs, if_neg (by decide)] at e2
  obtain ⟨xa, ga, La, ea, e1⟩ := cb_some e1
  obtain ⟨xb, gb, Lb, eb, e2⟩ := cb_some e2
  obtain ⟨xc, gc, Lc, ec, e2⟩ := cb_some e2
  cases e1
  obtain ⟨cs, hX, hM, -⟩ := dc_all h
  have hM := hM.d (e0_u (x := 0))
  have hW := hM.2.1
  obtain ⟨v, w, u1, u2, u3⟩ := bell_x (hX.d (e0_u (x := 0))) _ _ _ ea
  have hb := lv_m hM _ _ _ eb
  have hc := pc_ex (uX12_copies_12_42 fu hfu _ _) _ _ _ ec
  obtain ⟨z0, w', s1, s2⟩ := bell_m hfu hM (fun k hk => by rw [hc, cpd_ne (by omega), hb.2 k (by omega)]) _ _ _ e2
  obtain rfl := LV.u hW u1 hb.1
  obtain rfl := LV.u (wf_e hW (bl_k (by decide)) (bl_k (by decide)) (bl_k (by decide)) (bl_k (by decide))) u2 s1
  exact Or.inl ⟨by rw [u3, s2], by rw [z0]; exact a0⟩
