/-! ===== on, streams answer alike ===== -/
def fOn (bg en : Nat → Int32) (t : Int32) (i : Nat) (a : Int32) : Int32 := if t < bg i then a else if en i ≤ t then a else a ||| ((1 : Int32) <<< (Int32.ofInt (i : Int) &&& 31))
theorem onBits_x {cs : Nat → List Int} {n fu : Nat} {p1 : Int32} {g d : gT} {L : lT} (h : DC cs n g d) : Pc (fX1_onBits_8 fu p1 g L) (fun x g1 _ => g1 = g ∧ x = fo (fOn (g 43) (g 44) p1) n) := by
  have hn := h.1
  have n12 := h.1.2
  unfold fX1_onBits_8 fX1_onBits_8_l4
  refine pc_loop (fun v => ∃ m : Nat, v.2.1.toInt = (m : Int) ∧ m ≤ n ∧ v.1 = fo (fOn (g 43) (g 44) p1) m ∧ v.2.2.1 = g) (fun k4 hk v hv => ?_) ⟨0, rfl, by omega, rfl, rfl⟩
  obtain ⟨v2, v3, g', L'⟩ := v
  obtain ⟨m, hm, mn, e1, eg⟩ := hv
  replace hm : v3.toInt = (m : Int) := hm
  replace e1 : v2 = fo (fOn (g 43) (g 44) p1) m := e1
  replace eg : g' = g := eg
  subst eg
  show Pc (fX1_onBits_8_s4 fu p1 k4 v2 v3 g' L') _
  unfold fX1_onBits_8_s4 fX1_onBits_8_p41
  have ei : v3.toNatClampNeg = m := by rw [nc, hm]; omega
  have vi : v3 = Int32.ofInt (m : Int) := by rw [← hm]; exact io_i.symm
  refine pc_ite (fun c => pc_some ⟨rfl, ?_⟩) (fun c => ?_)
  · have c := icc_le hn.1 hm c
    rw [e1, show m = n by omega]
  have c := icc_nle hn.1 hm c
  have ew : (v3 + 1).toInt = ((m + 1 : Nat) : Int) := by rw [ic_addc hm (n := 1) rfl (by omega) (by omega)]; omega
  have fin : ∀ (x : Int32) (La : lT), x = (if p1 < g' 43 m then v2 else if g' 44 m ≤ p1 then v2 else v2 ||| ((1 : Int32) <<< (v3 &&& 31))) → Pc (k4 (x, (v3 + 1), g', La)) (fun x g1 _ => g1 = g' ∧ x = fo (fOn (g' 43) (g' 44) p1) n) := fun x La hx => hk _ ⟨m + 1, ew, by omega, by
    show x = fOn (g' 43) (g' 44) p1 m (fo (fOn (g' 43) (g' 44) p1) m)
    rw [hx, ← e1, vi]; rfl, rfl⟩
  rw [ei]
  refine pc_ck (fun _ _ => pc_ite (fun c1 => fin _ _ ?_) (fun c1 => pc_ck (fun _ _ => pc_ite (fun c2 => fin _ _ ?_) (fun c2 => pc_lti (fun x4 e4 => fin _ _ ?_)))))
  · rw [if_pos c1]
  · rw [if_neg c1, if_pos c2]
  · rw [if_neg c1, if_neg c2]; exact e4
theorem on_m {n fu : Nat} {p1 : Int32} {g : gT} {L : lT} (hn : (g 0 1).toInt = (n : Int)) (n12 : n ≤ 12) : Pc (fX12_on_l52 fu p1 0 0 g L) (fun x g1 _ => g1 = g ∧ x = fo (fOn (g 31) (g 32) p1) n) := by
  unfold fX12_on_l52
  refine pc_loop (fun v => ∃ m : Nat, v.2.1.toInt = (m : Int) ∧ m ≤ n ∧ v.1 = fo (fOn (g 31) (g 32) p1) m ∧ v.2.2.1 = g) (fun k52 hk v hv => ?_) ⟨0, rfl, by omega, rfl, rfl⟩
  obtain ⟨v3, v4, g', L'⟩ := v
  obtain ⟨m, hm, mn, e1, eg⟩ := hv
  replace hm : v4.toInt = (m : Int) := hm
  replace e1 : v3 = fo (fOn (g 31) (g 32) p1) m := e1
  replace eg : g' = g := eg
  subst eg
  show Pc (fX12_on_s52 fu p1 k52 v3 v4 g' L') _
  unfold fX12_on_s52 fX12_on_p91 fX12_on_p92
  have ei : v4.toNatClampNeg = m := by rw [nc, hm]; omega
  have vi : v4 = Int32.ofInt (m : Int) := by rw [← hm]; exact io_i.symm
  refine pc_ite (fun c => pc_some ⟨rfl, ?_⟩) (fun c => ?_)
  · have c := icc_le hn hm c
    rw [e1, show m = n by omega]
  have c := icc_nle hn hm c
  have ew : (v4 + 1).toInt = ((m + 1 : Nat) : Int) := by rw [ic_addc hm (n := 1) rfl (by omega) (by omega)]; omega
  have fin : ∀ (t : Int32) (La : lT), v3 ||| t = (if p1 < g' 31 m then v3 else if g' 32 m ≤ p1 then v3 else v3 ||| ((1 : Int32) <<< (v4 &&& 31))) → Pc (lti (v3 ||| t) (fun x22 => k52 (x22, (v4 + 1), g', La))) (fun x g1 _ => g1 = g' ∧ x = fo (fOn (g' 31) (g' 32) p1) n) := fun t La hx => pc_lti (fun x22 e22 => hk _ ⟨m + 1, ew, by omega, by
    show x22 = fOn (g' 31) (g' 32) p1 m (fo (fOn (g' 31) (g' 32) p1) m)
    rw [e22, hx, ← e1, vi]; rfl, rfl⟩)
  rw [ei]
  refine pc_ck (fun _ _ => pc_ite (fun c1 => fin _ _ ?_) (fun c1 => pc_ck (fun _ _ => pc_ite (fun c2 => fin _ _ ?_) (fun c2 => fin _ _ ?_))))
  · rw [if_pos c1, Int32.or_zero]
  · rw [if_neg c1, if_pos c2, Int32.or_zero]
  · rw [if_neg c1, if_neg c2]
theorem cr_on {fu : Nat} {p1 p2 : Int32} {g gm g1 g2 : gT} {L Lm L1 L2 : lT} {rx : Except String Int32} {rm : Int32} (hS : CS g gm) (e1 : fX11_on_0 fu p1 p2 g L = some (rx, (g1, L1))) (e2 : fX12_on fu p1 p2 gm Lm = some (rm, (g2, L2))) : (rx = .ok rm ∧ g2 0 0 = 0) ∨ (rx = .error NSE ∧ g2 0 0 = 1) ∨ (rx = .error IAE ∧ g2 0 0 = 2) := by
  have a0 : upd2 gm 0 0 0 0 0 = 0 := upd2_at
  unfold fX11_on_0 fX11_on_0_p43 at e1
  unfold fX12_on fX12_on_p30 at e2
  unfold sti at e2
  have e2 : cb (fX12_isWhat fu p2 1 (upd2 gm 0 0 0) Lm) _ = some (rm, (g2, L2)) := e2
  have i1 : (1 : Int32).toInt = 1 := rfl
  have i2 : (2 : Int32).toInt = 2 := rfl
  by_cases c2 : 0 ≤ p2.toInt ∧ p2.toInt ≤ (1 : Int32).toInt
  rotate_left
  · rw [xwhat0 (fun hh => c2 (by omega))] at e1
    have e1 : some (.error NSE, (g, L)) = some (rx, (g1, L1)) := e1
    rw [what0 a0 c2] at e2
    have e2 : some ((0 : Int32), (upd2 (upd2 gm 0 0 0) 0 0 1, Lm)) = some (rm, (g2, L2)) := e2
    cases e1; cases e2
    exact Or.inr (Or.inl ⟨rfl, upd2_at⟩)
  rw [xwhat1 c2.1 (by omega), cbxs] at e1
  rw [what1 a0 c2.1 c2.2, cbs, if_neg (by decide)] at e2
  by_cases c3 : (0 : Int32).toInt ≤ p1.toInt ∧ p1.toInt ≤ (4000 : Int32).toInt
  rotate_left
  · rw [xwith0 c3] at e1
    have e1 : some (.error IAE, (g, L)) = some (rx, (g1, L1)) := e1
    rw [within0 c3, cbs, right0 a0 (by decide), cbs, if_pos rfl] at e2
    cases e1; cases e2
    exact Or.inr (Or.inr ⟨rfl, upd2_at⟩)
  rw [xwith1 c3.1 c3.2, cbxs] at e1
  rw [within1 c3.1 c3.2, cbs, right1 a0, cbs, if_neg (by decide)] at e2
  obtain ⟨xa, ga, La, ea, e1⟩ := cb_some e1
  obtain ⟨xc, gc, Lc, ec, e2⟩ := cb_some e2
  obtain ⟨cs, M, m1, m2, m3, r1, r2, z0, hSD, hX, hn⟩ := bothw hS ea ec
  have n12 := hX.1.2
  by_cases c0 : p2 = 0
  · rw [if_pos c0] at e1
    rw [if_neg (by rw [c0]; decide)] at e2
    obtain ⟨xb, gb, Lb, eb, e1⟩ := cb_some e1
    cases e1
    obtain ⟨-, u⟩ := onBits_x hX _ _ _ eb
    obtain ⟨rfl, v⟩ := on_m hn n12 _ _ _ e2
    refine Or.inl ⟨?_, z0⟩
    rw [u, v]
    exact congrArg Except.ok (fo_c (fun i hi a => by unfold fOn; rw [(hSD i hi).1, (hSD i hi).2.1]))
  · rw [if_neg c0] at e1
    have c1 : p2 = 1 := by
      have q : ¬ p2.toInt = 0 := fun hh => c0 (ic_eq.mpr hh)
      exact ic_eq.mpr (by show p2.toInt = 1; omega)
    rw [if_pos c1] at e2
    obtain ⟨xb, gb, Lb, eb, e1⟩ := cb_some e1
    obtain ⟨xd, gd, Ld, ed, e2⟩ := cb_some e2
    cases e1; cases e2
    obtain ⟨-, u⟩ := people_x m1 m3 _ _ _ eb
    obtain ⟨rfl, v⟩ := onStair_m m2 m3 _ _ _ ed
    refine Or.inl ⟨?_, z0⟩
    rw [u, v, fp_c (fun w hw => ⟨(r1 w hw).1, (r1 w hw).2.1, (r1 w hw).2.2.1⟩)]
/-- two that meet, the one up, the other down -/
def fX (S E U : Nat → Int32) (a b : Nat) (s : Int32) : Int32 := s + (if U a = U b then 0 else if S a < E b ∧ S b < E a then 1 else 0)
theorem cross_x {M fu : Nat} {g : gT} {L : lT} (hM : (g 12 5).toInt = (M : Int)) (m72 : M ≤ 72) (hr : ∀ w, w < M → (g 53 w).toInt < (g 54 w).toInt) : Pc (fX9_crossings_12 fu g L) (fun x g1 _ => g1 = g ∧ x = fa (pf (fX (g 53) (g 54) (g 56)) M) 0 M) := by
  unfold fX9_crossings_12 fX9_crossings_12_l4
  refine pc_loop (fun v => ∃ a : Nat, v.2.1.toInt = (a : Int) ∧ a ≤ M ∧ v.1 = fa (pf (fX (g 53) (g 54) (g 56)) M) 0 a ∧ v.2.2.1 = g) (fun k4 hk v hv => ?_) ⟨0, rfl, by omega, rfl, rfl⟩
  obtain ⟨v1, v2, g', L'⟩ := v
  obtain ⟨a, ha, an, e1, eg⟩ := hv
  replace ha : v2.toInt = (a : Int) := ha
  replace e1 : v1 = fa (pf (fX (g 53) (g 54) (g 56)) M) 0 a := e1
  replace eg : g' = g := eg
  subst eg
  show Pc (fX9_crossings_12_s4 fu k4 v1 v2 g' L') _
  unfold fX9_crossings_12_s4
  refine pc_ite (fun c => pc_some ⟨rfl, ?_⟩) (fun c => ?_)
  · have c := icc_le hM ha c
    rw [e1, show a = M by omega]
  have c := icc_nle hM ha c
  have ea : v2.toNatClampNeg = a := by rw [nc, ha]; omega
  refine pc_lti (fun x2 e2 => ?_)
  have h2 : x2.toInt = ((a + 1 : Nat) : Int) := by rw [e2, ic_addc ha (n := 1) rfl (by omega) (by omega)]; omega
  unfold fX9_crossings_12_l16
  refine pc_loop (fun v => ∃ b : Nat, v.2.1.toInt = (b : Int) ∧ a < b ∧ b ≤ M ∧ v.1 = fa (fun j => fX (g' 53) (g' 54) (g' 56) a (a + 1 + j)) v1 (b - (a + 1)) ∧ v.2.2.1 = g') (fun k16 hk2 v hv => ?_) ⟨a + 1, h2, by omega, by omega, pf_0.symm, rfl⟩
  obtain ⟨w1, v3, g2, L2⟩ := v
  obtain ⟨b, hb, ab, bn, e3, eg⟩ := hv
  replace hb : v3.toInt = (b : Int) := hb
  replace e3 : w1 = fa (fun j => fX (g' 53) (g' 54) (g' 56) a (a + 1 + j)) v1 (b - (a + 1)) := e3
  replace eg : g2 = g' := eg
  subst eg
  show Pc (fX9_crossings_12_s16 fu k4 v2 k16 w1 v3 g2 L2) _
  unfold fX9_crossings_12_s16 fX9_crossings_12_p62 fX9_crossings_12_p89 fX9_crossings_12_p90
  refine pc_ite (fun c1 => hk _ ⟨a + 1, ?_, by omega, ?_, rfl⟩) (fun c1 => ?_)
  · show (v2 + 1).toInt = _
    rw [ic_addc ha (n := 1) rfl (by omega) (by omega)]; omega
  · have c1 := icc_le hM hb c1
    show w1 = pf (fX (g2 53) (g2 54) (g2 56)) M a (fa (pf (fX (g2 53) (g2 54) (g2 56)) M) 0 a)
    rw [e3, e1, show b = M by omega]; rfl
  have c1 := icc_nle hM hb c1
  have eb : v3.toNatClampNeg = b := by rw [nc, hb]; omega
  have ew : (v3 + 1).toInt = ((b + 1 : Nat) : Int) := by rw [ic_addc hb (n := 1) rfl (by omega) (by omega)]; omega
  have fin : ∀ (t : Int32) (La : lT), t = (if g2 56 a = g2 56 b then 0 else if g2 53 a < g2 54 b ∧ g2 53 b < g2 54 a then 1 else 0) → Pc (lti (w1 + t) (fun x4 => k16 (x4, (v3 + 1), g2, La))) (fun x g1 _ => g1 = g2 ∧ x = fa (pf (fX (g2 53) (g2 54) (g2 56)) M) 0 M) := fun t La ht => pc_lti (fun x4 e4 => hk2 _ ⟨b + 1, ew, by omega, by omega, by
    show x4 = _
    rw [pf_s ab, ← e3, e4, ht]; rfl, rfl⟩)
  have ra := hr a (by omega)
  have rb := hr b (by omega)
  rw [ea, eb]
  have key : ((if g2 54 b < g2 54 a then g2 54 b else g2 54 a) ≤ (if g2 53 a < g2 53 b then g2 53 b else g2 53 a)) ↔ ¬ (g2 53 a < g2 54 b ∧ g2 53 b < g2 54 a) := by
    have t1 : (if g2 54 b < g2 54 a then g2 54 b else g2 54 a).toInt = min (g2 54 a).toInt (g2 54 b).toInt := by
      by_cases q : g2 54 b < g2 54 a
      · have := ic_lt.mp q; rw [if_pos q]; omega
      · have := icc_nlt (m := (g2 54 b).toInt) (n := (g2 54 a).toInt) rfl rfl q; rw [if_neg q]; omega
    have t2 : (if g2 53 a < g2 53 b then g2 53 b else g2 53 a).toInt = max (g2 53 a).toInt (g2 53 b).toInt := by
      by_cases q : g2 53 a < g2 53 b
      · have := ic_lt.mp q; rw [if_pos q]; omega
      · have := icc_nlt (m := (g2 53 a).toInt) (n := (g2 53 b).toInt) rfl rfl q; rw [if_neg q]; omega
    constructor
    · intro c ⟨c1, c2⟩
      have c := ic_le.mp c
      rw [t1, t2] at c
      have c1 := ic_lt.mp c1
      have c2 := ic_lt.mp c2
      omega
    · intro c
      refine ic_le.mpr ?_
      rw [t1, t2]
      by_cases w : g2 53 a < g2 54 b
      · by_cases w2 : g2 53 b < g2 54 a
        · exact absurd ⟨w, w2⟩ c
        · have := icc_nlt (m := (g2 53 b).toInt) (n := (g2 54 a).toInt) rfl rfl w2
          omega
      · have := icc_nlt (m := (g2 53 a).toInt) (n := (g2 54 b).toInt) rfl rfl w
        omega
  refine pc_ck (fun _ _ => pc_ck (fun _ _ => pc_ck (fun _ _ => pc_ck (fun _ _ => pc_ite (fun c2 => ?_) (fun c2 => ?_)))))
  · rw [if_pos rfl]
    refine fin _ _ ?_
    by_cases q : g2 56 a = g2 56 b
    · rw [if_pos q]
    · rw [if_neg q, if_neg (key.mp c2)]
  · rw [if_neg (by decide)]
    have c2' : g2 53 a < g2 54 b ∧ g2 53 b < g2 54 a := Classical.byContradiction (fun hh => c2 (key.mpr hh))
    refine pc_ck (fun _ _ => pc_ck (fun _ _ => pc_ite (fun q => fin _ _ ?_) (fun q => fin _ _ ?_)))
    · rw [if_pos q]
    · rw [if_neg q, if_pos c2']
theorem streams_m {M fu : Nat} {g : gT} {L : lT} (hM : (g 0 79).toInt = (M : Int)) (m72 : M ≤ 72) : Pc (fX12_streams_l13 fu 0 0 g L) (fun x g1 _ => g1 = g ∧ x = fa (pf (fX (g 45) (fun w => g 45 w + g 46 w) (g 47)) M) 0 M) := by
  unfold fX12_streams_l13
  refine pc_loop (fun v => ∃ a : Nat, v.2.1.toInt = (a : Int) ∧ a ≤ M ∧ v.1 = fa (pf (fX (g 45) (fun w => g 45 w + g 46 w) (g 47)) M) 0 a ∧ v.2.2.1 = g) (fun k13 hk v hv => ?_) ⟨0, rfl, by omega, rfl, rfl⟩
  obtain ⟨v1, v2, g', L'⟩ := v
  obtain ⟨a, ha, an, e1, eg⟩ := hv
  replace ha : v2.toInt = (a : Int) := ha
  replace e1 : v1 = fa (pf (fX (g 45) (fun w => g 45 w + g 46 w) (g 47)) M) 0 a := e1
  replace eg : g' = g := eg
  subst eg
  show Pc (fX12_streams_s13 fu k13 v1 v2 g' L') _
  unfold fX12_streams_s13
  refine pc_ite (fun c => pc_some ⟨rfl, ?_⟩) (fun c => ?_)
  · have c := icc_le hM ha c
    rw [e1, show a = M by omega]
  have c := icc_nle hM ha c
  have ea : v2.toNatClampNeg = a := by rw [nc, ha]; omega
  refine pc_lti (fun x2 e2 => ?_)
  have h2 : x2.toInt = ((a + 1 : Nat) : Int) := by rw [e2, ic_addc ha (n := 1) rfl (by omega) (by omega)]; omega
  unfold fX12_streams_l25
  refine pc_loop (fun v => ∃ b : Nat, v.2.1.toInt = (b : Int) ∧ a < b ∧ b ≤ M ∧ v.1 = fa (fun j => fX (g' 45) (fun w => g' 45 w + g' 46 w) (g' 47) a (a + 1 + j)) v1 (b - (a + 1)) ∧ v.2.2.1 = g') (fun k25 hk2 v hv => ?_) ⟨a + 1, h2, by omega, by omega, pf_0.symm, rfl⟩
  obtain ⟨w1, v3, g2, L2⟩ := v
  obtain ⟨b, hb, ab, bn, e3, eg⟩ := hv
  replace hb : v3.toInt = (b : Int) := hb
  replace e3 : w1 = fa (fun j => fX (g' 45) (fun w => g' 45 w + g' 46 w) (g' 47) a (a + 1 + j)) v1 (b - (a + 1)) := e3
  replace eg : g2 = g' := eg
  subst eg
  show Pc (fX12_streams_s25 fu k13 v2 k25 w1 v3 g2 L2) _
  unfold fX12_streams_s25 fX12_streams_p100 fX12_streams_p101 fX12_streams_p103
  refine pc_ite (fun c1 => hk _ ⟨a + 1, ?_, by omega, ?_, rfl⟩) (fun c1 => ?_)
  · show (v2 + 1).toInt = _
    rw [ic_addc ha (n := 1) rfl (by omega) (by omega)]; omega
  · have c1 := icc_le hM hb c1
    show w1 = pf (fX (g2 45) (fun w => g2 45 w + g2 46 w) (g2 47)) M a (fa (pf (fX (g2 45) (fun w => g2 45 w + g2 46 w) (g2 47)) M) 0 a)
    rw [e3, e1, show b = M by omega]; rfl
  have c1 := icc_nle hM hb c1
  have eb : v3.toNatClampNeg = b := by rw [nc, hb]; omega
  have ew : (v3 + 1).toInt = ((b + 1 : Nat) : Int) := by rw [ic_addc hb (n := 1) rfl (by omega) (by omega)]; omega
  have fin0 : ∀ (x : Int32) (La : lT), x = w1 + (if g2 47 a = g2 47 b then 0 else if g2 45 a < g2 45 b + g2 46 b ∧ g2 45 b < g2 45 a + g2 46 a then 1 else 0) → Pc (k25 (x, (v3 + 1), g2, La)) (fun x g1 _ => g1 = g2 ∧ x = fa (pf (fX (g2 45) (fun w => g2 45 w + g2 46 w) (g2 47)) M) 0 M) := fun x La ht => hk2 _ ⟨b + 1, ew, by omega, by omega, by
    show x = _
    rw [pf_s ab, ← e3, ht]; rfl, rfl⟩
  rw [ea, eb]
  refine pc_ck (fun _ _ => pc_ck (fun _ _ => pc_ite (fun q => fin0 _ _ ?_) (fun q => pc_ck (fun _ _ => pc_ck (fun _ _ => pc_ck (fun _ _ => pc_ite (fun c2 => pc_lti (fun x10 e10 => fin0 _ _ ?_)) (fun c2 => pc_ck (fun _ _ => pc_ck (fun _ _ => pc_ck (fun _ _ => pc_ite (fun c3 => pc_lti (fun x10 e10 => fin0 _ _ ?_)) (fun c3 => pc_lti (fun x10 e10 => fin0 _ _ ?_))))))))))))
  · rw [if_pos q, Int32.add_zero]
  · rw [if_neg q, if_neg (fun hh => by have := ic_lt.mp hh.1; have := ic_le.mp c2; omega)]; exact e10
  · rw [if_neg q, if_neg (fun hh => by have := ic_lt.mp hh.2; have := ic_le.mp c3; omega)]; exact e10
  · have c2 := icc_nle (m := (g2 45 b + g2 46 b).toInt) (n := (g2 45 a).toInt) rfl rfl c2
    have c3 := icc_nle (m := (g2 45 a + g2 46 a).toInt) (n := (g2 45 b).toInt) rfl rfl c3
    rw [if_neg q, if_pos ⟨ic_lt.mpr c2, ic_lt.mpr c3⟩]; exact e10
theorem cr_streams {fu : Nat} {g gm g1 g2 : gT} {L Lm L1 L2 : lT} {rx rm : Int32} (hS : CS g gm) (e1 : fX11_streams_0 fu g L = some (rx, (g1, L1))) (e2 : fX12_streams fu gm Lm = some (rm, (g2, L2))) : rx = rm := by
  unfold fX11_streams_0 at e1
  unfold fX12_streams sti at e2
  obtain ⟨xa, ga, La, ea, e1⟩ := cb_some e1
  obtain ⟨xb, gb, Lb, eb, e1⟩ := cb_some e1
  obtain ⟨xc, gc, Lc, ec, e2⟩ := cb_some e2
  cases e1
  obtain ⟨cs, M, m1, m2, m3, r1, r2, z0, -⟩ := bothw hS ea ec
  obtain ⟨-, u⟩ := cross_x m1 m3 (fun w hw => by rw [(r1 w hw).1, (r1 w hw).2.1]; exact (r2 w hw).2.1) _ _ _ eb
  obtain ⟨-, v⟩ := streams_m m2 m3 _ _ _ e2
  rw [u, v]
  refine pf_c (fun a b ab bn s => ?_)
  have ra := r1 a (by omega)
  have rb := r1 b bn
  unfold fX
  rw [ra.1, ra.2.1, ra.2.2.2, rb.1, rb.2.1, rb.2.2.2]
