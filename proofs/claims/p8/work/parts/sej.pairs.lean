/-! ===== the best of what is offered: pair, swap ===== -/
/-- c, losing v, is the best of the offers: least is lost, then the least offer -/
def BO (P : Int → Int32 → Prop) (c : Int) (v : Int32) : Prop := P c v ∧ ∀ r w, P r w → v.toInt ≤ w.toInt ∧ (w.toInt = v.toInt → c ≤ r)
theorem BO.u {P : Int → Int32 → Prop} {c c' : Int} {v v' : Int32} (h : BO P c v) (h' : BO P c' v') : c = c' ∧ v = v' := by
  obtain ⟨a1, a2⟩ := h
  obtain ⟨b1, b2⟩ := h'
  obtain ⟨x1, x2⟩ := a2 c' v' b1
  obtain ⟨y1, y2⟩ := b2 c v a1
  have e : v.toInt = v'.toInt := by omega
  have := x2 e.symm
  have := y2 e
  exact ⟨by omega, ic_eq.mpr e⟩
def Ad (P : Int → Int32 → Prop) (r : Int) (w : Int32) (r' : Int) (w' : Int32) : Prop := P r' w' ∨ (r' = r ∧ w' = w)
theorem bo_first {P : Int → Int32 → Prop} {r : Int} {w : Int32} (h : ∀ r' v, P r' v → w.toInt < v.toInt) : BO (Ad P r w) r w := by
  refine ⟨Or.inr ⟨rfl, rfl⟩, fun r' w' hh => ?_⟩
  rcases hh with hh | ⟨e1, e2⟩
  · have := h r' w' hh
    exact ⟨by omega, fun e => by omega⟩
  · rw [e1, e2]; exact ⟨Int.le_refl _, fun _ => Int.le_refl _⟩
theorem bo_one {P : Int → Int32 → Prop} {r : Int} {w : Int32} (h : ∀ r v, ¬ P r v) : BO (Ad P r w) r w := bo_first (fun r' v hh => absurd hh (h r' v))
theorem bo_new {P : Int → Int32 → Prop} {c r : Int} {v w : Int32} (h : BO P c v) (hlt : w.toInt < v.toInt ∨ (w.toInt = v.toInt ∧ r ≤ c)) : BO (Ad P r w) r w := by
  obtain ⟨a1, a2⟩ := h
  refine ⟨Or.inr ⟨rfl, rfl⟩, fun r' w' hh => ?_⟩
  rcases hh with hh | ⟨e1, e2⟩
  · obtain ⟨b1, b2⟩ := a2 r' w' hh
    refine ⟨by omega, fun e => ?_⟩
    have := b2 (by omega)
    omega
  · rw [e1, e2]; exact ⟨Int.le_refl _, fun _ => Int.le_refl _⟩
theorem bo_keep {P : Int → Int32 → Prop} {c r : Int} {v w : Int32} (h : BO P c v) (hle : v.toInt < w.toInt ∨ (w.toInt = v.toInt ∧ c ≤ r)) : BO (Ad P r w) c v := by
  obtain ⟨a1, a2⟩ := h
  refine ⟨Or.inl a1, fun r' w' hh => ?_⟩
  rcases hh with hh | ⟨e1, e2⟩
  · exact a2 r' w' hh
  · rw [e1, e2]; exact ⟨by omega, fun e => by omega⟩
theorem of_iff {P P' : Int → Int32 → Prop} (h : ∀ r v, P r v ↔ P' r v) : P = P' := funext fun r => funext fun v => propext (h r v)
/-- what the class's Least holds of the offers -/
def LO (P : Int → Int32 → Prop) (g : gT) : Prop := (g 13 0 = 0 ∧ ∀ r v, ¬ P r v) ∨ (¬ g 13 0 = 0 ∧ BO P (g 13 1).toInt (g 13 2))
theorem LO.c {P P' : Int → Int32 → Prop} {g g' : gT} (h : LO P g) (e : g' 13 = g 13) (hp : ∀ r v, P r v ↔ P' r v) : LO P' g' := by
  unfold LO
  rw [e, ← of_iff hp]; exact h
theorem offer_o {P : Int → Int32 → Prop} {fu : Nat} {r : Int} {p1 p2 : Int32} {g : gT} {L : lT} (hr : p1.toInt = r) (h : LO P g) : Pc (fX4_offer_13 fu p1 p2 g L) (fun _ g1 _ => LO (Ad P r p2) g1 ∧ ∀ k, k ≠ 13 → g1 k = g k) := by
  unfold fX4_offer_13 fX4_offer_13_p31 fX4_offer_13_p46
  have take : BO (Ad P r p2) r p2 → Pc (sti g 13 0 1 (fun g1 => sti g1 13 1 p1 (fun g2 => sti g2 13 2 p2 (fun g3 => some ((), ((g3, L) : zS)))))) (fun _ g1 _ => LO (Ad P r p2) g1 ∧ ∀ k, k ≠ 13 → g1 k = g k) := by
    intro ha
    refine pc_st (fun g1 e1 => pc_st (fun g2 e2 => pc_st (fun g3 e3 => pc_some ⟨Or.inr ?_, fun k hk => ?_⟩)))
    · have z0 : g3 13 0 = 1 := by rw [e3, upd2_nj (by decide), e2, upd2_nj (by decide), e1, upd2_at]
      have z1 : g3 13 1 = p1 := by rw [e3, upd2_nj (by decide), e2, upd2_at]
      have z2 : g3 13 2 = p2 := by rw [e3, upd2_at]
      rw [z0, z1, z2, hr]
      exact ⟨by decide, ha⟩
    · rw [e3, e2, e1]
      exact funext fun _ => by rw [upd2_nk hk, upd2_nk hk, upd2_nk hk]
  have stay : BO (Ad P r p2) (g 13 1).toInt (g 13 2) → ¬ g 13 0 = 0 → Pc (some ((), ((g, L) : zS))) (fun _ g1 _ => LO (Ad P r p2) g1 ∧ ∀ k, k ≠ 13 → g1 k = g k) := fun ha h2 => pc_some ⟨Or.inr ⟨h2, ha⟩, fun _ _ => rfl⟩
  rcases h with ⟨h1, h2⟩ | ⟨h1, h2⟩
  · rw [if_pos h1]
    exact take (bo_one h2)
  · rw [if_neg h1]
    refine pc_ite (fun c => take (bo_new h2 (Or.inl (ic_lt.mp c)))) (fun c => pc_ite (fun c1 => pc_ite (fun c2 => stay (bo_keep h2 (Or.inr ⟨by rw [c1], icc_le (m := (g 13 1).toInt) rfl hr c2⟩)) h1) (fun c2 => take (bo_new h2 (Or.inr ⟨by rw [c1], Int.le_of_lt (icc_nle (m := (g 13 1).toInt) rfl hr c2)⟩)))) (fun c1 => stay (bo_keep h2 (Or.inl ?_)) h1))
    have x := icc_nlt (m := p2.toInt) (n := (g 13 2).toInt) rfl rfl c
    have y := icc_neq (m := p2.toInt) (n := (g 13 2).toInt) rfl rfl c1
    omega
/-- what is told of the offers -/
def TO (P : Int → Int32 → Prop) (p1 x : Int32) : Prop := ((∀ r v, ¬ P r v) ∧ x = -1) ∨ ∃ c v, BO P c v ∧ (p1 = 0 → x.toInt = c) ∧ (¬ p1 = 0 → x = v)
theorem TO.u {P : Int → Int32 → Prop} {p1 x y : Int32} (h : TO P p1 x) (h' : TO P p1 y) : x = y := by
  rcases h with ⟨a, b⟩ | ⟨c, v, a, b1, b2⟩
  · rcases h' with ⟨-, b'⟩ | ⟨c', v', a', -⟩
    · rw [b, b']
    · exact absurd a'.1 (a _ _)
  · rcases h' with ⟨a', -⟩ | ⟨c', v', a', d1, d2⟩
    · exact absurd a.1 (a' _ _)
    · obtain ⟨e1, e2⟩ := BO.u a a'
      by_cases c0 : p1 = 0
      · exact ic_eq.mpr (by rw [b1 c0, d1 c0, e1])
      · rw [b2 c0, d2 c0, e2]
theorem told_o {P : Int → Int32 → Prop} {fu : Nat} {p1 : Int32} {g : gT} {L : lT} (h : LO P g) : Pc (fX4_told_13 fu p1 g L) (fun x g1 _ => g1 = g ∧ TO P p1 x) := by
  unfold fX4_told_13 fX4_told_13_p24
  rcases h with ⟨a, b⟩ | ⟨a, b⟩
  · rw [if_pos a]
    exact pc_some ⟨rfl, Or.inl ⟨b, rfl⟩⟩
  · rw [if_neg a]
    exact pc_ite (fun c => pc_some ⟨rfl, Or.inr ⟨_, _, b, fun _ => rfl, fun hh => absurd c hh⟩⟩) (fun c => pc_some ⟨rfl, Or.inr ⟨_, _, b, fun hh => absurd hh c, fun _ => rfl⟩⟩)
/-- what the reference holds of the offers -/
def MO (P : Int → Int32 → Prop) (b f : Int32) : Prop := (b = -1 ∧ ∀ r v, ¬ P r v) ∨ (¬ b = -1 ∧ BO P b.toInt f)
theorem MO.c {P P' : Int → Int32 → Prop} {b f : Int32} (h : MO P b f) (hp : ∀ r v, P r v ↔ P' r v) : MO P' b f := by
  rw [← of_iff hp]; exact h
theorem mo_new {P : Int → Int32 → Prop} {r : Int} {k x : Int32} (hk : k.toInt = r) (r0 : 0 ≤ r) (h : BO (Ad P r x) r x) : MO (Ad P r x) k x := by
  refine Or.inr ⟨fun e => ?_, by rw [hk]; exact h⟩
  rw [e] at hk
  have : (-1 : Int32).toInt = -1 := rfl
  omega
/-- pairs a < b < n, in their order, up to (a, b) -/
def PP (F : Nat → Nat → Int32 → Prop) (n a b : Nat) (r : Int) (v : Int32) : Prop := ∃ a' b' : Nat, a' < b' ∧ b' < n ∧ (a' < a ∨ (a' = a ∧ b' < b)) ∧ r = 100 * (a' : Int) + (b' : Int) ∧ F a' b' v
section PPS
variable {F : Nat → Nat → Int32 → Prop} {n a b : Nat} {r : Int} {v : Int32}
theorem pp_0 : ¬ PP F n 0 0 r v := by
  intro ⟨a', b', _, _, h, _⟩
  omega
theorem pp_in : PP F n a 0 r v ↔ PP F n a (a + 1) r v := by
  constructor
  · intro ⟨a', b', h1, h2, h3, h4⟩; exact ⟨a', b', h1, h2, by omega, h4⟩
  · intro ⟨a', b', h1, h2, h3, h4⟩; exact ⟨a', b', h1, h2, by omega, h4⟩
theorem pp_out : PP F n a n r v ↔ PP F n (a + 1) 0 r v := by
  constructor
  · intro ⟨a', b', h1, h2, h3, h4⟩; exact ⟨a', b', h1, h2, by omega, h4⟩
  · intro ⟨a', b', h1, h2, h3, h4⟩; exact ⟨a', b', h1, h2, by omega, h4⟩
theorem pp_s {x : Int32} (fF : ∀ v, F a b v → v = x) (hx : F a b x) (ab : a < b) (bn : b < n) : ∀ r v, Ad (PP F n a b) (100 * (a : Int) + (b : Int)) x r v ↔ PP F n a (b + 1) r v := by
  intro r v
  constructor
  · intro hh
    rcases hh with ⟨a', b', h1, h2, h3, h4⟩ | ⟨h1, h2⟩
    · exact ⟨a', b', h1, h2, by omega, h4⟩
    · exact ⟨a, b, ab, bn, by omega, h1, by rw [h2]; exact hx⟩
  · intro ⟨a', b', h1, h2, h3, h4, h5⟩
    by_cases e : a' = a ∧ b' = b
    · obtain ⟨e1, e2⟩ := e
      rw [e1, e2] at h4 h5
      exact Or.inr ⟨h4, fF v h5⟩
    · exact Or.inl ⟨a', b', h1, h2, by omega, h4, h5⟩
theorem pp_lt (n12 : n ≤ 12) (h : PP F n a b r v) : r < 100 * (a : Int) + (b : Int) := by
  obtain ⟨a', b', h1, h2, h3, h4, -⟩ := h
  omega
end PPS
theorem Td_q {d g : gT} (h : ∀ k, k < 29 → g k = d k) : Td g = Td d := by
  funext k
  by_cases hk : k < 29
  · rw [Td_k hk, Td_k hk, h k hk]
  · unfold Td; rw [if_neg hk, if_neg hk]
theorem LV.t {cs : Nat → List Int} {n : Nat} {d g : gT} {v : Int32} (h : ∀ k, k < 29 → g k = d k) (hv : LV cs n g v) : LV cs n d v := by
  obtain ⟨bg, en, ru, by_, h1, h2⟩ := hv
  rw [← DY_T, Td_q h, DY_T] at h1
  rw [← fLost_T, Td_q h, fLost_T] at h2
  exact ⟨bg, en, ru, by_, h1, h2⟩
theorem MD.t {cs : Nat → List Int} {n : Nat} {d g : gT} (h : MD cs n d) (e : ∀ k, k < 29 → g k = d k) : MD cs n g := by
  unfold MD WF
  rw [e 0 (by omega), e 5 (by omega), e 6 (by omega), e 8 (by omega), e 9 (by omega), e 10 (by omega), e 11 (by omega)]
  exact h
theorem low_put {d g : gT} {j : Nat} {v : Int32} (e : ∀ k, k < 29 → g k = d k) : ∀ k, k < 29 → upd2 g 12 j v k = upd2 d 12 j v k := by
  intro k hk
  by_cases h : k = 12
  · subst h; rw [upd2_k, upd2_k, e 12 hk]
  · funext i; rw [upd2_nk h, upd2_nk h, e k hk]
theorem cpd_hi {g : gT} {a b n j : Nat} (h : ¬ j < n) : cpd g a b n b j = g b j := by
  unfold cpd
  rw [updA_at]; exact if_neg h
/-- what is lost without two -/
def F2 (cs : Nat → List Int) (n : Nat) (d : gT) (a b : Nat) (v : Int32) : Prop := LV cs n (upd2 (upd2 d 12 a 0) 12 b 0) v
theorem pair_x {cs : Nat → List Int} {n fu : Nat} {p1 : Int32} {g d : gT} {L : lT} (h : DC cs n g d) : Pc (fX10_withoutTwo_9 fu p1 g L) (fun x _ _ => TO (PP (F2 cs n d) n n 0) p1 x) := by
  unfold fX10_withoutTwo_9
  refine pc_cb clear_x (fun x1 g2 L3 e2 => ?_)
  unfold fX10_withoutTwo_9_l9
  have hW := h.2.2.2.1
  have hn := h.1
  have n12 := h.1.2
  refine pc_loop (fun v => ∃ a : Nat, v.1.toInt = (a : Int) ∧ a ≤ n ∧ (∀ k, k ≠ 13 → k ≠ 21 → (k < 43 ∨ 48 < k) → v.2.1 k = g k) ∧ LO (PP (F2 cs n d) n a 0) v.2.1) (fun k9 hk v hv => ?_) ⟨0, rfl, by omega, fun k a _ _ => e2.2 k a, Or.inl ⟨e2.1, fun _ _ => pp_0⟩⟩
  obtain ⟨v2, g', L'⟩ := v
  obtain ⟨a, ha, an, ek, hl⟩ := hv
  replace ha : v2.toInt = (a : Int) := ha
  replace ek : ∀ k, k ≠ 13 → k ≠ 21 → (k < 43 ∨ 48 < k) → g' k = g k := ek
  replace hl : LO (PP (F2 cs n d) n a 0) g' := hl
  show Pc (fX10_withoutTwo_9_s9 fu p1 k9 v2 g' L') _
  unfold fX10_withoutTwo_9_s9 fX10_lessonCount_9
  rw [ek 1 (by decide) (by decide) (by omega), cbs]
  refine pc_ite (fun c => ?_) (fun c => ?_)
  · have c := icc_le hn.1 ha c
    have em : a = n := by omega
    rw [em] at hl
    exact pc_cb (told_o hl) (fun x g1 L1 e => pc_some e.2)
  · have c := icc_nle hn.1 ha c
    refine pc_lti (fun x14 e14 => ?_)
    have h14 : x14.toInt = ((a + 1 : Nat) : Int) := by rw [e14, ic_addc ha (n := 1) rfl (by omega) (by omega)]; omega
    unfold fX10_withoutTwo_9_l21
    refine pc_loop (fun v => ∃ b : Nat, v.1.toInt = (b : Int) ∧ a < b ∧ b ≤ n ∧ (∀ k, k ≠ 13 → k ≠ 21 → (k < 43 ∨ 48 < k) → v.2.1 k = g k) ∧ LO (PP (F2 cs n d) n a b) v.2.1) (fun k21 hk2 v hv => ?_) ⟨a + 1, h14, by omega, by omega, ek, hl.c rfl (fun _ _ => pp_in)⟩
    obtain ⟨v3, g4, L4⟩ := v
    obtain ⟨b, hb, ab, bn, ek, hl⟩ := hv
    replace hb : v3.toInt = (b : Int) := hb
    replace ek : ∀ k, k ≠ 13 → k ≠ 21 → (k < 43 ∨ 48 < k) → g4 k = g k := ek
    replace hl : LO (PP (F2 cs n d) n a b) g4 := hl
    show Pc (fX10_withoutTwo_9_s21 fu k9 p1 v2 k21 v3 g4 L4) _
    unfold fX10_withoutTwo_9_s21 fX10_lessonCount_9
    rw [ek 1 (by decide) (by decide) (by omega), cbs]
    refine pc_ite (fun c => ?_) (fun c => ?_)
    · have c := icc_le hn.1 hb c
      have em : b = n := by omega
      rw [em] at hl
      refine hk _ ⟨a + 1, ?_, by omega, ek, hl.c rfl (fun _ _ => pp_out)⟩
      show (v2 + 1).toInt = _
      rw [ic_addc ha (n := 1) rfl (by omega) (by omega)]; omega
    · have c := icc_nle hn.1 hb c
      refine pc_cb (lw_x (h.c2 ek) ha hb (by omega) (by omega)) (fun x20 g21 L22 e20 => ?_)
      have hl' : LO (PP (F2 cs n d) n a b) g21 := hl.c (e20.2 13 (by decide) (by omega)) (fun _ _ => Iff.rfl)
      have k1 : (100 * v2 + v3).toInt = 100 * (a : Int) + (b : Int) := ic_addc (ic_mulc (m := 100) rfl ha (by omega) (by omega)) hb (by omega) (by omega)
      refine pc_cb (offer_o k1 hl') (fun x24 g25 L26 e25 => hk2 _ ⟨b + 1, ?_, by omega, by omega, fun k x y z => ?_, ?_⟩)
      · show (v3 + 1).toInt = _
        rw [ic_addc hb (n := 1) rfl (by omega) (by omega)]; omega
      · show g25 k = g k
        rw [e25.2 k x, e20.2 k y z, ek k x y z]
      · exact e25.1.c rfl (pp_s (fun v hv => LV.u (wf_p (wf_p hW)) hv e20.1) e20.1 ab (by omega))
theorem pair_m {cs : Nat → List Int} {n fu : Nat} (hfu : 1180591620717411303424 ≤ fu) {p1 : Int32} {g d : gT} {L : lT} (hM : MD cs n d) (e : ∀ k, k < 29 → g k = d k) (e42 : ∀ j, j < 48 → g 42 j = d 12 j) : Pc (fX12_pair_l35 fu p1 (-1) 0 0 g L) (fun x g1 _ => g1 0 = d 0 ∧ TO (PP (F2 cs n d) n n 0) p1 x) := by
  unfold fX12_pair_l35
  have hW := hM.2.1
  have n12 := hM.1.2
  refine pc_loop (fun v => ∃ a : Nat, v.2.2.1.toInt = (a : Int) ∧ a ≤ n ∧ (∀ k, k < 29 → v.2.2.2.1 k = d k) ∧ (∀ j, j < 48 → v.2.2.2.1 42 j = d 12 j) ∧ MO (PP (F2 cs n d) n a 0) v.1 v.2.1) (fun k35 hk v hv => ?_) ⟨0, rfl, by omega, e, e42, Or.inl ⟨rfl, fun _ _ => pp_0⟩⟩
  obtain ⟨v2, v3, v4, g', L'⟩ := v
  obtain ⟨a, ha, an, e, e42, hl⟩ := hv
  replace ha : v4.toInt = (a : Int) := ha
  replace e : ∀ k, k < 29 → g' k = d k := e
  replace e42 : ∀ j, j < 48 → g' 42 j = d 12 j := e42
  replace hl : MO (PP (F2 cs n d) n a 0) v2 v3 := hl
  show Pc (fX12_pair_s35 fu p1 k35 v2 v3 v4 g' L') _
  unfold fX12_pair_s35 fX12_pair_p144 fX12_pair_p149
  have e01 : (g' 0 1).toInt = (n : Int) := by rw [e 0 (by omega)]; exact hM.1.1
  refine pc_ite (fun c => ?_) (fun c => ?_)
  · have c := icc_le e01 ha c
    have em : a = n := by omega
    rw [em] at hl
    rcases hl with ⟨l1, l2⟩ | ⟨l1, l2⟩
    · rw [if_pos l1]
      exact pc_some ⟨e 0 (by omega), Or.inl ⟨l2, l1⟩⟩
    · rw [if_neg l1]
      exact pc_ite (fun c => pc_some ⟨e 0 (by omega), Or.inr ⟨_, _, l2, fun _ => rfl, fun hh => absurd c hh⟩⟩) (fun c => pc_some ⟨e 0 (by omega), Or.inr ⟨_, _, l2, fun hh => absurd hh c, fun _ => rfl⟩⟩)
  · have c := icc_nle e01 ha c
    refine pc_lti (fun x14 e14 => ?_)
    have h14 : x14.toInt = ((a + 1 : Nat) : Int) := by rw [e14, ic_addc ha (n := 1) rfl (by omega) (by omega)]; omega
    unfold fX12_pair_l50
    refine pc_loop (fun v => ∃ b : Nat, v.2.2.1.toInt = (b : Int) ∧ a < b ∧ b ≤ n ∧ (∀ k, k < 29 → v.2.2.2.1 k = d k) ∧ (∀ j, j < 48 → v.2.2.2.1 42 j = d 12 j) ∧ MO (PP (F2 cs n d) n a b) v.1 v.2.1) (fun k50 hk2 v hv => ?_) ⟨a + 1, h14, by omega, by omega, e, e42, hl.c (fun _ _ => pp_in)⟩
    obtain ⟨w2, w3, v5, g4, L4⟩ := v
    obtain ⟨b, hb, ab, bn, e, e42, hl⟩ := hv
    replace hb : v5.toInt = (b : Int) := hb
    replace e : ∀ k, k < 29 → g4 k = d k := e
    replace e42 : ∀ j, j < 48 → g4 42 j = d 12 j := e42
    replace hl : MO (PP (F2 cs n d) n a b) w2 w3 := hl
    show Pc (fX12_pair_s50 fu k35 p1 v4 k50 w2 w3 v5 g4 L4) _
    unfold fX12_pair_s50 fX12_pair_p111 fX12_pair_p123
    have e01 : (g4 0 1).toInt = (n : Int) := by rw [e 0 (by omega)]; exact hM.1.1
    refine pc_ite (fun c => ?_) (fun c => ?_)
    · have c := icc_le e01 hb c
      have em : b = n := by omega
      rw [em] at hl
      refine hk _ ⟨a + 1, ?_, by omega, e, e42, hl.c (fun _ _ => pp_out)⟩
      show (v4 + 1).toInt = _
      rw [ic_addc ha (n := 1) rfl (by omega) (by omega)]; omega
    · have c := icc_nle e01 hb c
      have ea : (0 + v4).toNatClampNeg = a := by rw [nc, ic_addc (m := 0) rfl ha (by omega) (by omega)]; omega
      have eb : (0 + v5).toNatClampNeg = b := by rw [nc, ic_addc (m := 0) rfl hb (by omega) (by omega)]; omega
      rw [ea, eb]
      refine pc_ck (fun _ _ => pc_st (fun g16 e16 => pc_ck (fun _ _ => pc_st (fun g17 e17 => ?_))))
      have q17 : ∀ k, k < 29 → g17 k = upd2 (upd2 d 12 a 0) 12 b 0 k := by rw [e17, e16]; exact low_put (low_put e)
      refine pc_cb (lv_m (cs := cs) (n := n) ((MD.put (MD.put hM)).t q17)) (fun x18 g19 L20 e18 => pc_cb (pc_ex (uX12_copies_42_12 fu hfu _ _)) (fun x22 g23 L24 e23 => ?_))
      have p18 : F2 cs n d a b x18 := e18.1.t q17
      have o17 : ∀ k, k ≠ 12 → g17 k = g4 k := fun k hk => by rw [e17, e16]; exact funext fun _ => by rw [upd2_nk hk, upd2_nk hk]
      have r23 : ∀ k, k < 29 → g23 k = d k := by
        intro k hk
        by_cases h12 : k = 12
        · subst h12
          funext j
          by_cases hj : j < 48
          · rw [e23, cpd_at hj, e18.2 42 (by omega), o17 42 (by decide)]; exact e42 j hj
          · rw [e23, cpd_hi hj, e18.2 12 (by omega), q17 12 (by omega), upd2_nj (by omega), upd2_nj (by omega)]
        · rw [e23, cpd_ne h12, e18.2 k (by omega), o17 k h12, e k hk]
      have r42 : ∀ j, j < 48 → g23 42 j = d 12 j := fun j hj => by rw [e23, cpd_ne (by decide), e18.2 42 (by omega), o17 42 (by decide)]; exact e42 j hj
      have k1 : (100 * v4 + v5).toInt = 100 * (a : Int) + (b : Int) := ic_addc (ic_mulc (m := 100) rfl ha (by omega) (by omega)) hb (by omega) (by omega)
      have es : ∀ r v, Ad (PP (F2 cs n d) n a b) (100 * (a : Int) + (b : Int)) x18 r v ↔ PP (F2 cs n d) n a (b + 1) r v := pp_s (fun v hv => LV.u (wf_p (wf_p hW)) hv p18) p18 ab (by omega)
      have ew : (v5 + 1).toInt = ((b + 1 : Nat) : Int) := by rw [ic_addc hb (n := 1) rfl (by omega) (by omega)]; omega
      have take : BO (Ad (PP (F2 cs n d) n a b) (100 * (a : Int) + (b : Int)) x18) (100 * (a : Int) + (b : Int)) x18 → Pc (lti ((100 * v4) + v5) (fun x26 => k50 (x26, x18, (v5 + 1), g23, L24))) (fun x g1 _ => g1 0 = d 0 ∧ TO (PP (F2 cs n d) n n 0) p1 x) := fun hh => pc_lti (fun x26 e26 => hk2 _ ⟨b + 1, ew, by omega, by omega, r23, r42, (mo_new (by rw [e26]; exact k1) (by omega) hh).c es⟩)
      rcases hl with ⟨l1, l2⟩ | ⟨l1, l2⟩
      · rw [if_pos l1]
        exact take (bo_one l2)
      · rw [if_neg l1]
        refine pc_ite (fun c1 => take (bo_new l2 (Or.inl (ic_lt.mp c1)))) (fun c1 => hk2 _ ⟨b + 1, ew, by omega, by omega, r23, r42, MO.c (Or.inr ⟨l1, bo_keep l2 ?_⟩) es⟩)
        have c1 := icc_nlt (m := x18.toInt) (n := w3.toInt) rfl rfl c1
        have := pp_lt n12 l2.1
        have key : w3.toInt < x18.toInt ∨ (x18.toInt = w3.toInt ∧ w2.toInt ≤ 100 * (a : Int) + (b : Int)) := by omega
        exact key
theorem cr_pair {fu : Nat} (hfu : 1180591620717411303424 ≤ fu) {p1 : Int32} {g gm g1 g2 : gT} {L Lm L1 L2 : lT} {rx : Except String Int32} {rm : Int32} (h : CR g gm) (e1 : fX11_pair_0 fu p1 g L = some (rx, (g1, L1))) (e2 : fX12_pair fu p1 gm Lm = some (rm, (g2, L2))) : (rx = .ok rm ∧ g2 0 0 = 0) ∨ (rx = .error NSE ∧ g2 0 0 = 1) := by
  have a0 : upd2 gm 0 0 0 0 0 = 0 := upd2_at
  unfold fX11_pair_0 at e1
  unfold fX12_pair at e2
  unfold sti at e2
  have e2 : cb (fX12_isWhat fu p1 1 (upd2 gm 0 0 0) Lm) _ = some (rm, (g2, L2)) := e2
  have i1 : (1 : Int32).toInt = 1 := rfl
  have i2 : (2 : Int32).toInt = 2 := rfl
  by_cases c2 : 0 ≤ p1.toInt ∧ p1.toInt ≤ (1 : Int32).toInt
  rotate_left
  · rw [xwhat0 (fun hh => c2 (by omega))] at e1
    have e1 : some (.error NSE, (g, L)) = some (rx, (g1, L1)) := e1
    rw [what0 a0 c2] at e2
    have e2 : some ((0 : Int32), (upd2 (upd2 gm 0 0 0) 0 0 1, Lm)) = some (rm, (g2, L2)) := e2
    cases e1; cases e2
    exact Or.inr ⟨rfl, upd2_at⟩
  rw [xwhat1 c2.1 (by omega), cbxs] at e1
  rw [what1 a0 c2.1 c2.2, cbs, if_neg (by decide)] at e2
  obtain ⟨xa, ga, La, ea, e1⟩ := cb_some e1
  obtain ⟨xb, gb, Lb, eb, e2⟩ := cb_some e2
  cases e1
  obtain ⟨cs, hX, hM, -⟩ := dc_all h
  have hb := pc_ex (uX12_copies_12_42 fu hfu _ _) _ _ _ eb
  have u := pair_x (hX.d (e0_u (x := 0))) _ _ _ ea
  have v := pair_m hfu (hM.d (e0_u (x := 0))) (fun k hk => by rw [hb, cpd_ne (by omega)]) (fun j hj => by rw [hb, cpd_at hj]) _ _ _ e2
  exact Or.inl ⟨by rw [TO.u u v.2], by rw [v.1]; exact a0⟩
