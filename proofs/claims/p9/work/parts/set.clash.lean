/-! ===== clash answers alike ===== -/
def mx (x y : Int32) : Int32 := if x < y then y else x
/-- the first minute on which both are on in one room, or -1 -/
def clsh (d : gT) (bg en : Nat → Int32) (a b : Nat) : Int32 := if d 12 (24 + a) = d 12 (24 + b) ∧ mx (bg a) (bg b) < en a ∧ mx (bg a) (bg b) < en b then mx (bg a) (bg b) else -1
def fN (c : Nat → Nat → Int32) (a b : Nat) (s : Int32) : Int32 := s + (if c a b = -1 then 0 else 1)
def fF (c : Nat → Nat → Int32) (a b : Nat) (s : Int32) : Int32 := if c a b = -1 then s else if s = -1 then c a b else if s ≤ c a b then s else c a b
/-- over the pairs of a -/
def pf (F : Nat → Nat → Int32 → Int32) (n a : Nat) (s : Int32) : Int32 := fa (fun j => F a (a + 1 + j)) s (n - (a + 1))
theorem pf_s {F : Nat → Nat → Int32 → Int32} {a b : Nat} {s : Int32} (ab : a < b) : fa (fun j => F a (a + 1 + j)) s (b + 1 - (a + 1)) = F a b (fa (fun j => F a (a + 1 + j)) s (b - (a + 1))) := by
  rw [show b + 1 - (a + 1) = (b - (a + 1)) + 1 by omega]
  show F a (a + 1 + (b - (a + 1))) _ = _
  rw [show a + 1 + (b - (a + 1)) = b by omega]
theorem pf_0 {F : Nat → Nat → Int32 → Int32} {a : Nat} {s : Int32} : fa (fun j => F a (a + 1 + j)) s (a + 1 - (a + 1)) = s := by
  rw [Nat.sub_self]; rfl
theorem pf_c {F F' : Nat → Nat → Int32 → Int32} {n : Nat} {s : Int32} (h : ∀ a b, a < b → b < n → ∀ s, F a b s = F' a b s) : fa (pf F n) s n = fa (pf F' n) s n := by
  refine fa_c (fun a _ s => ?_)
  unfold pf
  exact fa_c (fun j hj s => h a (a + 1 + j) (by omega) (by omega) s)
theorem clashOf_x {cs : Nat → List Int} {n a b fu : Nat} {p1 p2 : Int32} {g d : gT} {L : lT} (h : DC cs n g d) (ha : p1.toInt = (a : Int)) (hb : p2.toInt = (b : Int)) (an : a < n) (bn : b < n) : Pc (fX1_clashOf_8 fu p1 p2 g L) (fun x g1 _ => g1 = g ∧ x = clsh d (g 43) (g 44) a b) := by
  have n12 := h.1.2
  have ea : p1.toNatClampNeg = a := by rw [nc, ha]; omega
  have eb : p2.toNatClampNeg = b := by rw [nc, hb]; omega
  have ra : g 27 a = d 12 (24 + a) := (h.2.1 a an).2.2.2.1
  have rb : g 27 b = d 12 (24 + b) := (h.2.1 b bn).2.2.2.1
  unfold fX1_clashOf_8 fX1_clashOf_8_p40 fX1_clashOf_8_p72 fX1_clashOf_8_p73
  rw [ea, eb, ra, rb]
  refine pc_ck (fun _ _ => pc_ck (fun _ _ => pc_lti (fun x1 e1 => pc_ck (fun _ _ => pc_ck (fun _ _ => ?_)))))
  have e1 : x1 = mx (g 43 a) (g 43 b) := e1
  have key : ((if g 44 b < g 44 a then g 44 b else g 44 a) ≤ x1) ↔ ¬ (x1 < g 44 a ∧ x1 < g 44 b) := by
    constructor
    · intro c ⟨c1, c2⟩
      have c1 := ic_lt.mp c1
      have c2 := ic_lt.mp c2
      by_cases q : g 44 b < g 44 a
      · rw [if_pos q] at c; have := ic_le.mp c; omega
      · rw [if_neg q] at c; have := ic_le.mp c; omega
    · intro c
      by_cases q : g 44 b < g 44 a
      · rw [if_pos q]
        have q := ic_lt.mp q
        by_cases w : x1 < g 44 b
        · have w' := ic_lt.mp w
          exact absurd ⟨ic_lt.mpr (by omega), w⟩ c
        · have w := icc_nlt (m := x1.toInt) (n := (g 44 b).toInt) rfl rfl w
          exact ic_le.mpr w
      · rw [if_neg q]
        have q := icc_nlt (m := (g 44 b).toInt) (n := (g 44 a).toInt) rfl rfl q
        by_cases w : x1 < g 44 a
        · have w' := ic_lt.mp w
          exact absurd ⟨w, ic_lt.mpr (by omega)⟩ c
        · have w := icc_nlt (m := x1.toInt) (n := (g 44 a).toInt) rfl rfl w
          exact ic_le.mpr w
  unfold clsh
  rw [← e1]
  refine pc_ite (fun c => ?_) (fun c => ?_)
  · rw [if_pos rfl, if_neg (fun hh => key.mp c hh.2)]
    exact pc_some ⟨rfl, rfl⟩
  · rw [if_neg (by decide)]
    have c' : x1 < g 44 a ∧ x1 < g 44 b := Classical.byContradiction (fun hh => c (key.mpr hh))
    refine pc_ck (fun _ _ => pc_ck (fun _ _ => pc_ite (fun c1 => pc_some ⟨rfl, ?_⟩) (fun c1 => pc_some ⟨rfl, ?_⟩)))
    · rw [if_pos ⟨c1, c'⟩]
    · rw [if_neg (fun hh => c1 hh.1)]
theorem clashes_x {cs : Nat → List Int} {n fu : Nat} {g d : gT} {L : lT} (h : DC cs n g d) : Pc (fX1_clashes_8 fu g L) (fun x g1 _ => g1 = g ∧ x = fa (pf (fN (clsh d (g 43) (g 44))) n) 0 n) := by
  have hn := h.1
  have n12 := h.1.2
  unfold fX1_clashes_8 fX1_clashes_8_l4
  refine pc_loop (fun v => ∃ a : Nat, v.2.1.toInt = (a : Int) ∧ a ≤ n ∧ v.1 = fa (pf (fN (clsh d (g 43) (g 44))) n) 0 a ∧ v.2.2.1 = g) (fun k4 hk v hv => ?_) ⟨0, rfl, by omega, rfl, rfl⟩
  obtain ⟨v1, v2, g', L'⟩ := v
  obtain ⟨a, ha, an, e1, eg⟩ := hv
  replace ha : v2.toInt = (a : Int) := ha
  replace e1 : v1 = fa (pf (fN (clsh d (g 43) (g 44))) n) 0 a := e1
  replace eg : g' = g := eg
  subst eg
  show Pc (fX1_clashes_8_s4 fu k4 v1 v2 g' L') _
  unfold fX1_clashes_8_s4
  refine pc_ite (fun c => pc_some ⟨rfl, ?_⟩) (fun c => ?_)
  · have c := icc_le hn.1 ha c
    rw [e1, show a = n by omega]
  have c := icc_nle hn.1 ha c
  refine pc_lti (fun x2 e2 => ?_)
  have h2 : x2.toInt = ((a + 1 : Nat) : Int) := by rw [e2, ic_addc ha (n := 1) rfl (by omega) (by omega)]; omega
  unfold fX1_clashes_8_l19
  refine pc_loop (fun v => ∃ b : Nat, v.2.1.toInt = (b : Int) ∧ a < b ∧ b ≤ n ∧ v.1 = fa (fun j => fN (clsh d (g' 43) (g' 44)) a (a + 1 + j)) v1 (b - (a + 1)) ∧ v.2.2.1 = g') (fun k19 hk2 v hv => ?_) ⟨a + 1, h2, by omega, by omega, pf_0.symm, rfl⟩
  obtain ⟨w1, v3, g2, L2⟩ := v
  obtain ⟨b, hb, ab, bn, e3, eg⟩ := hv
  replace hb : v3.toInt = (b : Int) := hb
  replace e3 : w1 = fa (fun j => fN (clsh d (g' 43) (g' 44)) a (a + 1 + j)) v1 (b - (a + 1)) := e3
  replace eg : g2 = g' := eg
  subst eg
  show Pc (fX1_clashes_8_s19 fu k4 v2 k19 w1 v3 g2 L2) _
  unfold fX1_clashes_8_s19 fX1_clashes_8_p46
  refine pc_ite (fun c1 => hk _ ⟨a + 1, ?_, by omega, ?_, rfl⟩) (fun c1 => ?_)
  · show (v2 + 1).toInt = _
    rw [ic_addc ha (n := 1) rfl (by omega) (by omega)]; omega
  · have c1 := icc_le hn.1 hb c1
    show w1 = pf (fN (clsh d (g2 43) (g2 44))) n a (fa (pf (fN (clsh d (g2 43) (g2 44))) n) 0 a)
    rw [e3, e1, show b = n by omega]; rfl
  have c1 := icc_nle hn.1 hb c1
  have ew : (v3 + 1).toInt = ((b + 1 : Nat) : Int) := by rw [ic_addc hb (n := 1) rfl (by omega) (by omega)]; omega
  refine pc_cb (clashOf_x h ha hb (by omega) (by omega)) (fun x4 g5 L6 e => ?_)
  obtain ⟨rfl, e⟩ := e
  refine pc_ite (fun c2 => pc_lti (fun x8 e8 => hk2 _ ⟨b + 1, ew, by omega, by omega, ?_, rfl⟩)) (fun c2 => pc_lti (fun x8 e8 => hk2 _ ⟨b + 1, ew, by omega, by omega, ?_, rfl⟩))
  · show x8 = _
    rw [pf_s ab, ← e3]
    unfold fN
    rw [← e, if_pos c2]; exact e8
  · show x8 = _
    rw [pf_s ab, ← e3]
    unfold fN
    rw [← e, if_neg c2]; exact e8
theorem first_x {cs : Nat → List Int} {n fu : Nat} {g d : gT} {L : lT} (h : DC cs n g d) : Pc (fX1_firstClash_8 fu g L) (fun x g1 _ => g1 = g ∧ x = fa (pf (fF (clsh d (g 43) (g 44))) n) (-1) n) := by
  have hn := h.1
  have n12 := h.1.2
  unfold fX1_firstClash_8 fX1_firstClash_8_l4
  refine pc_loop (fun v => ∃ a : Nat, v.2.1.toInt = (a : Int) ∧ a ≤ n ∧ v.1 = fa (pf (fF (clsh d (g 43) (g 44))) n) (-1) a ∧ v.2.2.1 = g) (fun k4 hk v hv => ?_) ⟨0, rfl, by omega, rfl, rfl⟩
  obtain ⟨v1, v2, g', L'⟩ := v
  obtain ⟨a, ha, an, e1, eg⟩ := hv
  replace ha : v2.toInt = (a : Int) := ha
  replace e1 : v1 = fa (pf (fF (clsh d (g 43) (g 44))) n) (-1) a := e1
  replace eg : g' = g := eg
  subst eg
  show Pc (fX1_firstClash_8_s4 fu k4 v1 v2 g' L') _
  unfold fX1_firstClash_8_s4
  refine pc_ite (fun c => pc_some ⟨rfl, ?_⟩) (fun c => ?_)
  · have c := icc_le hn.1 ha c
    rw [e1, show a = n by omega]
  have c := icc_nle hn.1 ha c
  refine pc_lti (fun x2 e2 => ?_)
  have h2 : x2.toInt = ((a + 1 : Nat) : Int) := by rw [e2, ic_addc ha (n := 1) rfl (by omega) (by omega)]; omega
  unfold fX1_firstClash_8_l19
  refine pc_loop (fun v => ∃ b : Nat, v.2.1.toInt = (b : Int) ∧ a < b ∧ b ≤ n ∧ v.1 = fa (fun j => fF (clsh d (g' 43) (g' 44)) a (a + 1 + j)) v1 (b - (a + 1)) ∧ v.2.2.1 = g') (fun k19 hk2 v hv => ?_) ⟨a + 1, h2, by omega, by omega, pf_0.symm, rfl⟩
  obtain ⟨w1, v3, g2, L2⟩ := v
  obtain ⟨b, hb, ab, bn, e3, eg⟩ := hv
  replace hb : v3.toInt = (b : Int) := hb
  replace e3 : w1 = fa (fun j => fF (clsh d (g' 43) (g' 44)) a (a + 1 + j)) v1 (b - (a + 1)) := e3
  replace eg : g2 = g' := eg
  subst eg
  show Pc (fX1_firstClash_8_s19 fu k4 v2 k19 w1 v3 g2 L2) _
  unfold fX1_firstClash_8_s19 fX1_firstClash_8_p55 fX1_firstClash_8_p58
  refine pc_ite (fun c1 => hk _ ⟨a + 1, ?_, by omega, ?_, rfl⟩) (fun c1 => ?_)
  · show (v2 + 1).toInt = _
    rw [ic_addc ha (n := 1) rfl (by omega) (by omega)]; omega
  · have c1 := icc_le hn.1 hb c1
    show w1 = pf (fF (clsh d (g2 43) (g2 44))) n a (fa (pf (fF (clsh d (g2 43) (g2 44))) n) (-1) a)
    rw [e3, e1, show b = n by omega]; rfl
  have c1 := icc_nle hn.1 hb c1
  have ew : (v3 + 1).toInt = ((b + 1 : Nat) : Int) := by rw [ic_addc hb (n := 1) rfl (by omega) (by omega)]; omega
  refine pc_cb (clashOf_x h ha hb (by omega) (by omega)) (fun x4 g5 L6 e => ?_)
  obtain ⟨rfl, e⟩ := e
  have fin : ∀ (x : Int32) (La : lT), x = fF (clsh d (g5 43) (g5 44)) a b w1 → Pc (k19 (x, (v3 + 1), g5, La)) (fun x g1 _ => g1 = g5 ∧ x = fa (pf (fF (clsh d (g5 43) (g5 44))) n) (-1) n) := fun x La hx => hk2 _ ⟨b + 1, ew, by omega, by omega, by
    show x = _
    rw [pf_s ab, ← e3]; exact hx, rfl⟩
  unfold fF at fin
  rw [← e] at fin
  refine pc_ite (fun c2 => fin _ _ ?_) (fun c2 => pc_ite (fun c3 => fin _ _ ?_) (fun c3 => pc_ite (fun c4 => fin _ _ ?_) (fun c4 => fin _ _ ?_)))
  · rw [if_pos c2]
  · rw [if_neg c2, if_pos c3]
  · rw [if_neg c2, if_neg c3, if_pos c4]
  · rw [if_neg c2, if_neg c3, if_neg c4]
theorem clash_m {cs : Nat → List Int} {n fu : Nat} {p1 : Int32} {g d : gT} {L : lT} (hM : MD cs n d) (e : Em d g) (h0 : ∀ i, i < n → 0 ≤ (g 31 i).toInt) : Pc (fX12_clash_l27 fu p1 0 (-1) 0 g L) (fun x g1 _ => g1 = g ∧ x = if p1 = 0 then fa (pf (fN (clsh d (g 31) (g 32))) n) 0 n else fa (pf (fF (clsh d (g 31) (g 32))) n) (-1) n) := by
  have n12 := hM.1.2
  have e01 : (g 0 1).toInt = (n : Int) := by rw [e 0 (by omega)]; exact hM.1.1
  unfold fX12_clash_l27
  refine pc_loop (fun v => ∃ a : Nat, v.2.2.1.toInt = (a : Int) ∧ a ≤ n ∧ v.1 = fa (pf (fN (clsh d (g 31) (g 32))) n) 0 a ∧ v.2.1 = fa (pf (fF (clsh d (g 31) (g 32))) n) (-1) a ∧ v.2.2.2.1 = g) (fun k27 hk v hv => ?_) ⟨0, rfl, by omega, rfl, rfl, rfl⟩
  obtain ⟨v2, v3, v4, g', L'⟩ := v
  obtain ⟨a, ha, an, e2, e3, eg⟩ := hv
  replace ha : v4.toInt = (a : Int) := ha
  replace e2 : v2 = fa (pf (fN (clsh d (g 31) (g 32))) n) 0 a := e2
  replace e3 : v3 = fa (pf (fF (clsh d (g 31) (g 32))) n) (-1) a := e3
  replace eg : g' = g := eg
  subst eg
  show Pc (fX12_clash_s27 fu p1 k27 v2 v3 v4 g' L') _
  unfold fX12_clash_s27 fX12_clash_p175
  refine pc_ite (fun c => pc_ite (fun c0 => pc_some ⟨rfl, ?_⟩) (fun c0 => pc_some ⟨rfl, ?_⟩)) (fun c => ?_)
  · have c := icc_le e01 ha c
    rw [if_pos c0, e2, show a = n by omega]
  · have c := icc_le e01 ha c
    rw [if_neg c0, e3, show a = n by omega]
  have c := icc_nle e01 ha c
  have ea : v4.toNatClampNeg = a := by rw [nc, ha]; omega
  refine pc_lti (fun x13 e13 => ?_)
  have h13 : x13.toInt = ((a + 1 : Nat) : Int) := by rw [e13, ic_addc ha (n := 1) rfl (by omega) (by omega)]; omega
  unfold fX12_clash_l42
  refine pc_loop (fun v => ∃ b : Nat, v.2.2.1.toInt = (b : Int) ∧ a < b ∧ b ≤ n ∧ v.1 = fa (fun j => fN (clsh d (g' 31) (g' 32)) a (a + 1 + j)) v2 (b - (a + 1)) ∧ v.2.1 = fa (fun j => fF (clsh d (g' 31) (g' 32)) a (a + 1 + j)) v3 (b - (a + 1)) ∧ v.2.2.2.1 = g') (fun k42 hk2 v hv => ?_) ⟨a + 1, h13, by omega, by omega, pf_0.symm, pf_0.symm, rfl⟩
  obtain ⟨w2, w3, v5, g2, L2⟩ := v
  obtain ⟨b, hb, ab, bn, e4, e5, eg⟩ := hv
  replace hb : v5.toInt = (b : Int) := hb
  replace e4 : w2 = fa (fun j => fN (clsh d (g' 31) (g' 32)) a (a + 1 + j)) v2 (b - (a + 1)) := e4
  replace e5 : w3 = fa (fun j => fF (clsh d (g' 31) (g' 32)) a (a + 1 + j)) v3 (b - (a + 1)) := e5
  replace eg : g2 = g' := eg
  subst eg
  show Pc (fX12_clash_s42 fu k27 p1 v4 k42 w2 w3 v5 g2 L2) _
  unfold fX12_clash_s42
  refine pc_ite (fun c1 => hk _ ⟨a + 1, ?_, by omega, ?_, ?_, rfl⟩) (fun c1 => ?_)
  · show (v4 + 1).toInt = _
    rw [ic_addc ha (n := 1) rfl (by omega) (by omega)]; omega
  · have c1 := icc_le e01 hb c1
    show w2 = pf (fN (clsh d (g2 31) (g2 32))) n a (fa (pf (fN (clsh d (g2 31) (g2 32))) n) 0 a)
    rw [e4, e2, show b = n by omega]; rfl
  · have c1 := icc_le e01 hb c1
    show w3 = pf (fF (clsh d (g2 31) (g2 32))) n a (fa (pf (fF (clsh d (g2 31) (g2 32))) n) (-1) a)
    rw [e5, e3, show b = n by omega]; rfl
  have c1 := icc_nle e01 hb c1
  have eb : v5.toNatClampNeg = b := by rw [nc, hb]; omega
  have ew : (v5 + 1).toInt = ((b + 1 : Nat) : Int) := by rw [ic_addc hb (n := 1) rfl (by omega) (by omega)]; omega
  have e24 : (24 + v4).toNatClampNeg = 24 + a := by rw [nc, ic_addc (m := 24) rfl ha (by omega) (by omega)]; omega
  have f24 : (24 + v5).toNatClampNeg = 24 + b := by rw [nc, ic_addc (m := 24) rfl hb (by omega) (by omega)]; omega
  have fin : ∀ (x y : Int32) (La : lT), x = fN (clsh d (g2 31) (g2 32)) a b w2 → y = fF (clsh d (g2 31) (g2 32)) a b w3 → Pc (k42 (x, y, (v5 + 1), g2, La)) (fun x g1 _ => g1 = g2 ∧ x = if p1 = 0 then fa (pf (fN (clsh d (g2 31) (g2 32))) n) 0 n else fa (pf (fF (clsh d (g2 31) (g2 32))) n) (-1) n) := fun x y La hx hy => hk2 _ ⟨b + 1, ew, by omega, by omega, by
    show x = _
    rw [pf_s ab, ← e4]; exact hx, by
    show y = _
    rw [pf_s ab, ← e5]; exact hy, rfl⟩
  have p85 : ∀ (t0 : Int32) (La : lT), t0 = mx (g2 31 a) (g2 31 b) → Pc (fX12_clash_p85 fu k27 k42 p1 w2 w3 v4 v5 t0 g2 La) (fun x g1 _ => g1 = g2 ∧ x = if p1 = 0 then fa (pf (fN (clsh d (g2 31) (g2 32))) n) 0 n else fa (pf (fF (clsh d (g2 31) (g2 32))) n) (-1) n) := by
    intro t0 La ht
    have t0n : ¬ t0 = -1 := fun q => by
      have i1 : (-1 : Int32).toInt = -1 := rfl
      have ga := h0 a (by omega)
      have gb := h0 b (by omega)
      rw [q] at ht
      unfold mx at ht
      by_cases w : g2 31 a < g2 31 b
      · rw [if_pos w] at ht; rw [← ht] at gb; omega
      · rw [if_neg w] at ht; rw [← ht] at ga; omega
    unfold fN fF clsh at fin
    rw [← ht] at fin
    unfold fX12_clash_p85 fX12_clash_p151 fX12_clash_p154
    rw [e24, f24, ea, eb, e 12 (by omega)]
    have skip : ∀ La : lT, ¬ (d 12 (24 + a) = d 12 (24 + b) ∧ t0 < g2 32 a ∧ t0 < g2 32 b) → Pc (k42 (w2, w3, (v5 + 1), g2, La)) (fun x g1 _ => g1 = g2 ∧ x = if p1 = 0 then fa (pf (fN (clsh d (g2 31) (g2 32))) n) 0 n else fa (pf (fF (clsh d (g2 31) (g2 32))) n) (-1) n) := fun La nc' => by
      refine fin w2 w3 La ?_ ?_
      · rw [if_neg nc', if_pos rfl, Int32.add_zero]
      · rw [if_neg nc', if_pos rfl]
    refine pc_ck (fun _ _ => pc_ck (fun _ _ => pc_ite (fun c2 => pc_ck (fun _ _ => pc_ite (fun c3 => skip _ (fun hh => ?_)) (fun c3 => pc_ck (fun _ _ => pc_ite (fun c4 => ?_) (fun c4 => skip _ (fun hh => c4 hh.2.2)))))) (fun c2 => skip _ (fun hh => c2 hh.1))))
    · have c3 := ic_le.mp c3
      have := ic_lt.mp hh.2.1
      omega
    · have c3 := icc_nle (m := (g2 32 a).toInt) (n := t0.toInt) rfl rfl c3
      have cc : d 12 (24 + a) = d 12 (24 + b) ∧ t0 < g2 32 a ∧ t0 < g2 32 b := ⟨c2, ic_lt.mpr c3, c4⟩
      refine pc_ite (fun c5 => fin _ _ _ ?_ ?_) (fun c5 => pc_ite (fun c6 => fin _ _ _ ?_ ?_) (fun c6 => fin _ _ _ ?_ ?_))
      · rw [if_pos cc, if_neg t0n]
      · rw [if_pos cc, if_neg t0n, if_pos c5]
      · rw [if_pos cc, if_neg t0n]
      · rw [if_pos cc, if_neg t0n, if_neg c5, if_pos c6]
      · rw [if_pos cc, if_neg t0n]
      · rw [if_pos cc, if_neg t0n, if_neg c5, if_neg c6]
  rw [ea, eb]
  refine pc_ck (fun _ _ => pc_ck (fun _ _ => pc_ite (fun c2 => pc_ck (fun _ _ => p85 _ _ ?_)) (fun c2 => pc_ck (fun _ _ => p85 _ _ ?_))))
  · have c2 := ic_le.mp c2
    unfold mx
    by_cases w : g2 31 a < g2 31 b
    · rw [if_pos w]
    · rw [if_neg w]
      have w := icc_nlt (m := (g2 31 a).toInt) (n := (g2 31 b).toInt) rfl rfl w
      exact ic_eq.mpr (by omega)
  · have c2 := icc_nle (m := (g2 31 a).toInt) (n := (g2 31 b).toInt) rfl rfl c2
    unfold mx
    rw [if_neg (fun hh => by have := ic_lt.mp hh; omega)]
theorem clsh_c {d : gT} {n : Nat} {bg en bg' en' : Nat → Int32} {a b : Nat} (h1 : ∀ i, i < n → bg i = bg' i) (h2 : ∀ i, i < n → en i = en' i) (an : a < n) (bn : b < n) : clsh d bg en a b = clsh d bg' en' a b := by
  unfold clsh
  rw [h1 a an, h1 b bn, h2 a an, h2 b bn]
theorem cr_clash {fu : Nat} {p1 : Int32} {g gm g1 g2 : gT} {L Lm L1 L2 : lT} {rx : Except String Int32} {rm : Int32} (hS : CS g gm) (e1 : fX11_clash_0 fu p1 g L = some (rx, (g1, L1))) (e2 : fX12_clash fu p1 gm Lm = some (rm, (g2, L2))) : (rx = .ok rm ∧ g2 0 0 = 0) ∨ (rx = .error NSE ∧ g2 0 0 = 1) := by
  have h := hS.1
  have a0 : upd2 gm 0 0 0 0 0 = 0 := upd2_at
  unfold fX11_clash_0 fX11_clash_0_p34 at e1
  unfold fX12_clash at e2
  unfold sti at e2
  have e2 : cb (fX12_isWhat fu p1 1 (upd2 gm 0 0 0) Lm) _ = some (rm, (g2, L2)) := e2
  have i1 : (1 : Int32).toInt = 1 := rfl
  have i2 : (2 : Int32).toInt = 2 := rfl
  by_cases c2 : 0 ≤ p1.toInt ∧ p1.toInt ≤ (1 : Int32).toInt
  rotate_left
  · rw [xwhat0 (fun hh => c2 (by omega))] at e1
    have e1 : some (.error NSE, (g, L)) = some (rx, (g1, L1)) := e1
    rw [what0 a0 c2] at e2
    have e2 : some ((0 : Int32), (upd2 (upd2 gm 0 0 0) 0 0 1, Lm)) = some (rm, (g2, L2)) := e2
    cases e1; cases e2
    exact Or.inr ⟨rfl, upd2_at⟩
  rw [xwhat1 c2.1 (by omega), cbxs] at e1
  rw [what1 a0 c2.1 c2.2, cbs, if_neg (by decide)] at e2
  obtain ⟨xa, ga, La, ea, e1⟩ := cb_some e1
  obtain ⟨xb, gb, Lb, eb, e2⟩ := cb_some e2
  obtain ⟨cs, hSD, hX, hM, hW⟩ := both h e0_u ea eb
  have z0 : gb 0 0 = 0 := by rw [works_0 eb]; exact a0
  have bb := dy_b (nb_of hS (e0_u (x := 0))) hW.1
  have nb := nb_of hS (e0_u (x := 0))
  obtain ⟨v0, v⟩ := clash_m hM hW.2 (fun i hi => by have := (bb i hi).1; have := (nb.1 i hi).1.1; omega) _ _ _ e2
  have cc : ∀ a b, a < b → b < (gm 0 1).toInt.toNat → clsh (upd2 gm 0 0 0) (ga 43) (ga 44) a b = clsh (upd2 gm 0 0 0) (gb 31) (gb 32) a b := fun a b ab bn => clsh_c (fun i hi => (hSD i hi).1) (fun i hi => (hSD i hi).2.1) (by omega) bn
  by_cases c0 : p1 = 0
  · rw [if_pos c0] at e1 v
    obtain ⟨xc, gc, Lc, ec, e1⟩ := cb_some e1
    cases e1
    obtain ⟨-, u⟩ := clashes_x hX _ _ _ ec
    refine Or.inl ⟨?_, by rw [v0]; exact z0⟩
    rw [u, v]
    exact congrArg Except.ok (pf_c (fun a b ab bn s => by unfold fN; rw [cc a b ab bn]))
  · rw [if_neg c0] at e1 v
    obtain ⟨xc, gc, Lc, ec, e1⟩ := cb_some e1
    cases e1
    obtain ⟨-, u⟩ := first_x hX _ _ _ ec
    refine Or.inl ⟨?_, by rw [v0]; exact z0⟩
    rw [u, v]
    exact congrArg Except.ok (pf_c (fun a b ab bn s => by unfold fF; rw [cc a b ab bn]))
