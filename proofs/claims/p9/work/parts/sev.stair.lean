/-! ===== on, busiest, streams answer alike ===== -/
def fP (S E P : Nat → Int32) (t : Int32) (w : Nat) (a : Int32) : Int32 := a + (if t < S w then 0 else if E w ≤ t then 0 else P w)
theorem people_x {M fu : Nat} {p1 : Int32} {g : gT} {L : lT} (hM : (g 12 5).toInt = (M : Int)) (m72 : M ≤ 72) : Pc (fX9_peopleIn_12 fu p1 g L) (fun x g1 _ => g1 = g ∧ x = fo (fP (g 53) (g 54) (g 55) p1) M) := by
  unfold fX9_peopleIn_12 fX9_peopleIn_12_l4
  refine pc_loop (fun v => ∃ m : Nat, v.2.1.toInt = (m : Int) ∧ m ≤ M ∧ v.1 = fo (fP (g 53) (g 54) (g 55) p1) m ∧ v.2.2.1 = g) (fun k4 hk v hv => ?_) ⟨0, rfl, by omega, rfl, rfl⟩
  obtain ⟨v2, v3, g', L'⟩ := v
  obtain ⟨m, hm, mn, e1, eg⟩ := hv
  replace hm : v3.toInt = (m : Int) := hm
  replace e1 : v2 = fo (fP (g 53) (g 54) (g 55) p1) m := e1
  replace eg : g' = g := eg
  subst eg
  show Pc (fX9_peopleIn_12_s4 fu p1 k4 v2 v3 g' L') _
  unfold fX9_peopleIn_12_s4 fX9_peopleIn_12_p42 fX9_peopleIn_12_p43
  have ei : v3.toNatClampNeg = m := by rw [nc, hm]; omega
  refine pc_ite (fun c => pc_some ⟨rfl, ?_⟩) (fun c => ?_)
  · have c := icc_le hM hm c
    rw [e1, show m = M by omega]
  have c := icc_nle hM hm c
  have ew : (v3 + 1).toInt = ((m + 1 : Nat) : Int) := by rw [ic_addc hm (n := 1) rfl (by omega) (by omega)]; omega
  have fin : ∀ (t : Int32) (La : lT), t = (if p1 < g' 53 m then 0 else if g' 54 m ≤ p1 then 0 else g' 55 m) → Pc (lti (v2 + t) (fun x2 => k4 (x2, (v3 + 1), g', La))) (fun x g1 _ => g1 = g' ∧ x = fo (fP (g' 53) (g' 54) (g' 55) p1) M) := fun t La ht => pc_lti (fun x2 e2 => hk _ ⟨m + 1, ew, by omega, by
    show x2 = fP (g' 53) (g' 54) (g' 55) p1 m (fo (fP (g' 53) (g' 54) (g' 55) p1) m)
    rw [e2, e1, ht]; rfl, rfl⟩)
  rw [ei]
  refine pc_ck (fun _ _ => pc_ite (fun c1 => fin _ _ ?_) (fun c1 => pc_ck (fun _ _ => pc_ite (fun c2 => fin _ _ ?_) (fun c2 => pc_ck (fun _ _ => fin _ _ ?_)))))
  · rw [if_pos c1]
  · rw [if_neg c1, if_pos c2]
  · rw [if_neg c1, if_neg c2]
theorem onStair_m {M fu : Nat} {p1 : Int32} {g : gT} {L : lT} (hM : (g 0 79).toInt = (M : Int)) (m72 : M ≤ 72) : Pc (fX12_onStair fu p1 g L) (fun x g1 _ => g1 = g ∧ x = fo (fP (g 45) (fun w => g 45 w + g 46 w) (fun w => g 4 (g 44 w).toInt.toNat) p1) M) := by
  unfold fX12_onStair fX12_onStair_l4
  refine pc_loop (fun v => ∃ m : Nat, v.2.1.toInt = (m : Int) ∧ m ≤ M ∧ v.1 = fo (fP (g 45) (fun w => g 45 w + g 46 w) (fun w => g 4 (g 44 w).toInt.toNat) p1) m ∧ v.2.2.1 = g) (fun k4 hk v hv => ?_) ⟨0, rfl, by omega, rfl, rfl⟩
  obtain ⟨v2, v3, g', L'⟩ := v
  obtain ⟨m, hm, mn, e1, eg⟩ := hv
  replace hm : v3.toInt = (m : Int) := hm
  replace e1 : v2 = fo (fP (g 45) (fun w => g 45 w + g 46 w) (fun w => g 4 (g 44 w).toInt.toNat) p1) m := e1
  replace eg : g' = g := eg
  subst eg
  show Pc (fX12_onStair_s4 fu p1 k4 v2 v3 g' L') _
  unfold fX12_onStair_s4 fX12_onStair_p54 fX12_onStair_p55
  have ei : v3.toNatClampNeg = m := by rw [nc, hm]; omega
  refine pc_ite (fun c => pc_some ⟨rfl, ?_⟩) (fun c => ?_)
  · have c := icc_le hM hm c
    rw [e1, show m = M by omega]
  have c := icc_nle hM hm c
  have ew : (v3 + 1).toInt = ((m + 1 : Nat) : Int) := by rw [ic_addc hm (n := 1) rfl (by omega) (by omega)]; omega
  have fin : ∀ (t : Int32) (La : lT), t = (if p1 < g' 45 m then 0 else if g' 45 m + g' 46 m ≤ p1 then 0 else g' 4 (g' 44 m).toInt.toNat) → Pc (lti (v2 + t) (fun x2 => k4 (x2, (v3 + 1), g', La))) (fun x g1 _ => g1 = g' ∧ x = fo (fP (g' 45) (fun w => g' 45 w + g' 46 w) (fun w => g' 4 (g' 44 w).toInt.toNat) p1) M) := fun t La ht => pc_lti (fun x2 e2 => hk _ ⟨m + 1, ew, by omega, by
    show x2 = fP (g' 45) (fun w => g' 45 w + g' 46 w) (fun w => g' 4 (g' 44 w).toInt.toNat) p1 m (fo (fP (g' 45) (fun w => g' 45 w + g' 46 w) (fun w => g' 4 (g' 44 w).toInt.toNat) p1) m)
    rw [e2, e1, ht]; rfl, rfl⟩)
  rw [ei]
  refine pc_ck (fun _ _ => pc_ite (fun c1 => fin _ _ ?_) (fun c1 => pc_ck (fun _ _ => pc_ck (fun _ _ => pc_ite (fun c2 => fin _ _ ?_) (fun c2 => pc_ck (fun _ _ => pc_ck (fun _ _ => fin _ _ ?_)))))))
  · rw [if_pos c1]
  · rw [if_neg c1, if_pos c2]
  · rw [if_neg c1, if_neg c2, nc]
/-- the same ways, in both; each takes a while, and some people -/
def RLs (M : Nat) (S E P U S' E' P' U' : Nat → Int32) : Prop := ∀ w, w < M → S w = S' w ∧ E w = E' w ∧ P w = P' w ∧ U w = U' w
def RG (M : Nat) (S E P : Nat → Int32) : Prop := ∀ w, w < M → 0 ≤ (S w).toInt ∧ (S w).toInt < (E w).toInt ∧ 1 ≤ (P w).toInt ∧ (P w).toInt ≤ 99
theorem fp_c {M : Nat} {S E P S' E' P' : Nat → Int32} {t : Int32} (h : ∀ w, w < M → S w = S' w ∧ E w = E' w ∧ P w = P' w) : fo (fP S E P t) M = fo (fP S' E' P' t) M :=
  fo_c (fun w hw a => by unfold fP; rw [(h w hw).1, (h w hw).2.1, (h w hw).2.2])
theorem off_b {a b : Int32} (ha : 0 ≤ a.toInt ∧ a.toInt ≤ 9) (hb : 0 ≤ b.toInt ∧ b.toInt ≤ 9) : 0 ≤ (off a b).toInt ∧ (off a b).toInt ≤ 9 := by
  unfold off
  by_cases c : b ≤ a
  · have c' := ic_le.mp c
    rw [if_pos c, ic_sub (by omega) (by omega)]; omega
  · have c' := icc_nle (m := b.toInt) (n := a.toInt) rfl rfl c
    rw [if_neg c, ic_sub (by omega) (by omega)]; omega
/-- a way over the stair takes a while -/
theorem wy_b {n j i : Nat} {d : gT} (hN : NB n d) (jn : j < n) (ni : i < n) (cross : ¬ (5 ≤ (d 12 (24 + j)).toInt ↔ 5 ≤ (d 12 (24 + i)).toInt)) : 1 ≤ (wy d j i).toInt ∧ (wy d j i).toInt ≤ 278 := by
  obtain ⟨⟨-, -, ⟨p1, p2⟩, -⟩, -, rj⟩ := hN.1 j jn
  have ri := (hN.1 i ni).2.2
  obtain ⟨-, ⟨w1, w2⟩, ⟨s1, s2⟩⟩ := hN
  have o := off_b rj ri
  unfold wy
  rw [if_neg cross]
  generalize off (d 12 (24 + j)) (d 12 (24 + i)) = f at o ⊢
  generalize d 0 3 = w at w1 w2 ⊢
  generalize d 0 4 = s at s1 s2 ⊢
  generalize d 4 j = p at p1 p2 ⊢
  have m1 : 0 ≤ w.toInt * f.toInt ∧ w.toInt * f.toInt ≤ 81 := by
    constructor
    · exact Int.mul_nonneg w1 o.1
    · exact Int.le_trans (Int.mul_le_mul w2 o.2 o.1 (by omega)) (by omega)
  have e1 : (w * f).toInt = w.toInt * f.toInt := ic_mulc rfl rfl (by omega) (by omega)
  have e2 : (p + s - 1).toInt = p.toInt + s.toInt - 1 := ic_subc (ic_addc rfl rfl (by omega) (by omega)) (n := 1) rfl (by omega) (by omega)
  have e3 : ((p + s - 1) / s).toInt = (p.toInt + s.toInt - 1) / s.toInt := by
    rw [Int32.toInt_div_of_ne_right _ _ (fun q => by rw [q] at s1; exact absurd s1 (by decide)), e2, Int.tdiv_eq_ediv_of_nonneg (by omega)]
  have b1 : 1 ≤ (p.toInt + s.toInt - 1) / s.toInt := Int.le_ediv_of_mul_le (by omega) (by omega)
  have b2 : (p.toInt + s.toInt - 1) / s.toInt ≤ p.toInt + s.toInt - 1 := Int.ediv_le_self _ (by omega)
  rw [ic_addc e1 e3 (by omega) (by omega)]
  omega
theorem rel {cs : Nat → List Int} {n : Nat} {g g2 d : gT} (hN : NB n d) (hW : WF n d) (hS : ∀ i, i < n → g 44 i = g2 32 i) (dy : DY cs d n (g2 31) (g2 32) (g2 33) (g2 34)) (e4 : g2 4 = d 4) (hx : WX d (g 44) (wl d n) g) (hy : WY d (g2 32) (wl d n) g2) : RLs (wl d n).length (g 53) (g 54) (g 55) (g 56) (g2 45) (fun w => g2 45 w + g2 46 w) (fun w => g2 4 (g2 44 w).toInt.toNat) (g2 47) ∧ RG (wl d n).length (g2 45) (fun w => g2 45 w + g2 46 w) (fun w => g2 4 (g2 44 w).toInt.toNat) := by
  have bb := dy_b hN dy
  have at_ : ∀ w, w < (wl d n).length → ∃ p, (wl d n)[w]? = some p ∧ WO d n p := fun w hw => ⟨(wl d n)[w], List.getElem?_eq_getElem hw, wl_o hW n (Nat.le_refl _) _ (List.getElem_mem _)⟩
  refine ⟨fun w hw => ?_, fun w hw => ?_⟩
  · obtain ⟨p, hp, o1, o2, -⟩ := at_ w hw
    obtain ⟨x1, x2, x3, x4⟩ := hx.2 w p hp
    obtain ⟨y1, y2, y3, y4⟩ := hy.2 w p hp
    refine ⟨?_, ?_, ?_, by rw [x4, y4]⟩
    · rw [x1, y2]; exact hS _ (by omega)
    · show g 54 w = g2 45 w + g2 46 w
      rw [x2, y2, y3, hS _ (by omega)]
    · show g 55 w = g2 4 (g2 44 w).toInt.toNat
      rw [x3, y1, e4]; rfl
  · obtain ⟨p, hp, o1, o2, o3⟩ := at_ w hw
    obtain ⟨y1, y2, y3, -⟩ := hy.2 w p hp
    have b := bb p.1 (by omega)
    have nb := (hN.1 p.1 (by omega)).1
    have wb := wy_b hN (show p.1 < n by omega) o2 o3
    rw [← y3] at wb
    have s : (g2 45 w + g2 46 w).toInt = (g2 45 w).toInt + (g2 46 w).toInt := by
      rw [y2] ; exact ic_addc rfl rfl (by omega) (by omega)
    refine ⟨?_, ?_, ?_⟩
    · rw [y2]; omega
    · show _ < (g2 45 w + g2 46 w).toInt
      rw [s]; omega
    · show 1 ≤ (g2 4 (g2 44 w).toInt.toNat).toInt ∧ (g2 4 (g2 44 w).toInt.toNat).toInt ≤ 99
      rw [y1, e4]
      exact nb.2.2.1
theorem fp_b {M : Nat} {S E P : Nat → Int32} {t : Int32} (h : RG M S E P) (m72 : M ≤ 72) : ∀ m, m ≤ M → (0 ≤ (fo (fP S E P t) m).toInt ∧ (fo (fP S E P t) m).toInt ≤ 99 * (m : Int)) ∧ ∀ w, w < m → t = S w → 1 ≤ (fo (fP S E P t) m).toInt := by
  intro m
  induction m with
  | zero => intro _; exact ⟨⟨Int.le_refl _, Int.le_refl _⟩, fun w hw => absurd hw (Nat.not_lt_zero _)⟩
  | succ m ih =>
    intro hm
    obtain ⟨⟨a1, a2⟩, a3⟩ := ih (by omega)
    obtain ⟨r1, r2, r3, r4⟩ := h m (by omega)
    have z : (0 : Int32).toInt = 0 := rfl
    have vb : 0 ≤ (if t < S m then 0 else if E m ≤ t then 0 else P m : Int32).toInt ∧ (if t < S m then 0 else if E m ≤ t then 0 else P m : Int32).toInt ≤ 99 := by
      split
      · omega
      · split
        · omega
        · omega
    have e : (fo (fP S E P t) (m + 1)).toInt = (fo (fP S E P t) m).toInt + (if t < S m then 0 else if E m ≤ t then 0 else P m : Int32).toInt := ic_addc rfl rfl (by omega) (by omega)
    refine ⟨by rw [e]; omega, fun w hw ht => ?_⟩
    rw [e]
    by_cases q : w = m
    · have c1 : ¬ t < S m := fun hh => by have := ic_lt.mp hh; rw [ht, q] at this; omega
      have c2 : ¬ E m ≤ t := fun hh => by have := ic_le.mp hh; rw [ht, q] at this; omega
      rw [if_neg c1, if_neg c2]; omega
    · have := a3 w (by omega) ht
      omega
/-- one way more, for the busiest minute -/
def bst (S E P : Nat → Int32) (M w : Nat) (s : Int32 × Int32) : Int32 × Int32 := if s.2 < fo (fP S E P (S w)) M then (S w, fo (fP S E P (S w)) M) else if fo (fP S E P (S w)) M = s.2 then (if s.1 ≤ S w then s else (S w, fo (fP S E P (S w)) M)) else s
def bsf (S E P : Nat → Int32) (M : Nat) : Nat → Int32 × Int32
  | 0 => (-1, 0)
  | w + 1 => bst S E P M w (bsf S E P M w)
theorem bsf_c {M : Nat} {S E P S' E' P' : Nat → Int32} (h : ∀ w, w < M → S w = S' w ∧ E w = E' w ∧ P w = P' w) : ∀ m, m ≤ M → bsf S E P M m = bsf S' E' P' M m := by
  intro m
  induction m with
  | zero => intro _; rfl
  | succ m ih =>
    intro hm
    show bst S E P M m (bsf S E P M m) = bst S' E' P' M m (bsf S' E' P' M m)
    rw [ih (by omega)]
    unfold bst
    rw [(h m (by omega)).1, fp_c h]
theorem bsf_i {M : Nat} {S E P : Nat → Int32} (h : RG M S E P) : ∀ m, m ≤ M → ((bsf S E P M m).1 = -1 ∧ (bsf S E P M m).2 = 0) ∨ (¬ (bsf S E P M m).1 = -1 ∧ (bsf S E P M m).2 = fo (fP S E P (bsf S E P M m).1) M) := by
  intro m
  induction m with
  | zero => intro _; exact Or.inl ⟨rfl, rfl⟩
  | succ m ih =>
    intro hm
    have ih := ih (by omega)
    have r := (h m (by omega)).1
    have ns : ¬ S m = -1 := fun q => by rw [q] at r; exact absurd r (by decide)
    show ((bst S E P M m (bsf S E P M m)).1 = -1 ∧ (bst S E P M m (bsf S E P M m)).2 = 0) ∨ (¬ (bst S E P M m (bsf S E P M m)).1 = -1 ∧ (bst S E P M m (bsf S E P M m)).2 = fo (fP S E P (bst S E P M m (bsf S E P M m)).1) M)
    generalize bsf S E P M m = s at ih ⊢
    unfold bst
    by_cases c1 : s.2 < fo (fP S E P (S m)) M
    · rw [if_pos c1]; exact Or.inr ⟨ns, rfl⟩
    · rw [if_neg c1]
      by_cases c2 : fo (fP S E P (S m)) M = s.2
      · rw [if_pos c2]
        by_cases c3 : s.1 ≤ S m
        · rw [if_pos c3]; exact ih
        · rw [if_neg c3]; exact Or.inr ⟨ns, rfl⟩
      · rw [if_neg c2]; exact ih
theorem busy_x {M fu : Nat} {g : gT} {L : lT} (hM : (g 12 5).toInt = (M : Int)) (m72 : M ≤ 72) : Pc (fX9_busiestMinute_12 fu g L) (fun x g1 _ => g1 = g ∧ x = (bsf (g 53) (g 54) (g 55) M M).1) := by
  unfold fX9_busiestMinute_12 fX9_busiestMinute_12_l6
  refine pc_loop (fun v => ∃ m : Nat, v.2.2.1.toInt = (m : Int) ∧ m ≤ M ∧ (v.1, v.2.1) = bsf (g 53) (g 54) (g 55) M m ∧ v.2.2.2.1 = g) (fun k6 hk v hv => ?_) ⟨0, rfl, by omega, rfl, rfl⟩
  obtain ⟨v1, v2, v3, g', L'⟩ := v
  obtain ⟨m, hm, mn, e1, eg⟩ := hv
  replace hm : v3.toInt = (m : Int) := hm
  replace e1 : (v1, v2) = bsf (g 53) (g 54) (g 55) M m := e1
  replace eg : g' = g := eg
  subst eg
  show Pc (fX9_busiestMinute_12_s6 fu k6 v1 v2 v3 g' L') _
  unfold fX9_busiestMinute_12_s6 fX9_busiestMinute_12_p48 fX9_busiestMinute_12_p58
  have ei : v3.toNatClampNeg = m := by rw [nc, hm]; omega
  refine pc_ite (fun c => pc_some ⟨rfl, ?_⟩) (fun c => ?_)
  · have c := icc_le hM hm c
    rw [show m = M by omega] at e1
    rw [← e1]
  have c := icc_nle hM hm c
  have ew : (v3 + 1).toInt = ((m + 1 : Nat) : Int) := by rw [ic_addc hm (n := 1) rfl (by omega) (by omega)]; omega
  rw [ei]
  refine pc_ck (fun _ _ => pc_cb (people_x hM m72) (fun x2 g3 L4 q => ?_))
  obtain ⟨rfl, q⟩ := q
  have fin : ∀ (a b : Int32) (La : lT), (a, b) = bst (g3 53) (g3 54) (g3 55) M m (v1, v2) → Pc (k6 (a, b, (v3 + 1), g3, La)) (fun x g1 _ => g1 = g3 ∧ x = (bsf (g3 53) (g3 54) (g3 55) M M).1) := fun a b La hb => hk _ ⟨m + 1, ew, by omega, by
    show (a, b) = bst (g3 53) (g3 54) (g3 55) M m (bsf (g3 53) (g3 54) (g3 55) M m)
    rw [← e1]; exact hb, rfl⟩
  unfold bst at fin
  rw [← q] at fin
  refine pc_ite (fun c1 => pc_ck (fun _ _ => pc_lti (fun x6 e6 => fin _ _ _ ?_))) (fun c1 => pc_ite (fun c2 => pc_ck (fun _ _ => pc_ite (fun c3 => fin _ _ _ ?_) (fun c3 => pc_ck (fun _ _ => pc_lti (fun x6 e6 => fin _ _ _ ?_))))) (fun c2 => fin _ _ _ ?_))
  · rw [if_pos c1, e6]
  · rw [if_neg c1, if_pos c2, if_pos c3]
  · rw [if_neg c1, if_pos c2, if_neg c3, e6]
  · rw [if_neg c1, if_neg c2]
theorem busy_m {M fu : Nat} {p1 : Int32} {g : gT} {L : lT} (hM : (g 0 79).toInt = (M : Int)) (m72 : M ≤ 72) (hr : RG M (g 45) (fun w => g 45 w + g 46 w) (fun w => g 4 (g 44 w).toInt.toNat)) : Pc (fX12_busiest_l27 fu p1 (-1) 0 0 g L) (fun x g1 _ => g1 = g ∧ x = if p1 = 0 then (bsf (g 45) (fun w => g 45 w + g 46 w) (fun w => g 4 (g 44 w).toInt.toNat) M M).2 else (bsf (g 45) (fun w => g 45 w + g 46 w) (fun w => g 4 (g 44 w).toInt.toNat) M M).1) := by
  unfold fX12_busiest_l27
  refine pc_loop (fun v => ∃ m : Nat, v.2.2.1.toInt = (m : Int) ∧ m ≤ M ∧ (v.1, v.2.1) = bsf (g 45) (fun w => g 45 w + g 46 w) (fun w => g 4 (g 44 w).toInt.toNat) M m ∧ v.2.2.2.1 = g) (fun k27 hk v hv => ?_) ⟨0, rfl, by omega, rfl, rfl⟩
  obtain ⟨v2, v3, v4, g', L'⟩ := v
  obtain ⟨m, hm, mn, e1, eg⟩ := hv
  replace hm : v4.toInt = (m : Int) := hm
  replace e1 : (v2, v3) = bsf (g 45) (fun w => g 45 w + g 46 w) (fun w => g 4 (g 44 w).toInt.toNat) M m := e1
  replace eg : g' = g := eg
  subst eg
  show Pc (fX12_busiest_s27 fu p1 k27 v2 v3 v4 g' L') _
  unfold fX12_busiest_s27 fX12_busiest_p80 fX12_busiest_p91 fX12_busiest_p106
  have ei : v4.toNatClampNeg = m := by rw [nc, hm]; omega
  refine pc_ite (fun c => ?_) (fun c => ?_)
  · have c := icc_le hM hm c
    rw [show m = M by omega] at e1
    rw [← e1]
    refine pc_ite (fun c0 => pc_some ⟨rfl, ?_⟩) (fun c0 => pc_some ⟨rfl, ?_⟩)
    · rw [if_pos c0]
    · rw [if_neg c0]
  have c := icc_nle hM hm c
  have ew : (v4 + 1).toInt = ((m + 1 : Nat) : Int) := by rw [ic_addc hm (n := 1) rfl (by omega) (by omega)]; omega
  rw [ei]
  refine pc_ck (fun _ _ => pc_cb (onStair_m hM m72) (fun x13 g14 L15 q => ?_))
  obtain ⟨rfl, q⟩ := q
  have inv := bsf_i hr m (by omega)
  rw [← e1] at inv
  replace inv : (v2 = -1 ∧ v3 = 0) ∨ (¬ v2 = -1 ∧ v3 = fo (fP (g14 45) (fun w => g14 45 w + g14 46 w) (fun w => g14 4 (g14 44 w).toInt.toNat) v2) M) := inv
  have pos := (fp_b (t := g14 45 m) hr m72 M (Nat.le_refl _)).2 m (by omega) rfl
  have fin : ∀ (a b : Int32) (La : lT), (a, b) = bst (g14 45) (fun w => g14 45 w + g14 46 w) (fun w => g14 4 (g14 44 w).toInt.toNat) M m (v2, v3) → Pc (k27 (a, b, (v4 + 1), g14, La)) (fun x g1 _ => g1 = g14 ∧ x = if p1 = 0 then (bsf (g14 45) (fun w => g14 45 w + g14 46 w) (fun w => g14 4 (g14 44 w).toInt.toNat) M M).2 else (bsf (g14 45) (fun w => g14 45 w + g14 46 w) (fun w => g14 4 (g14 44 w).toInt.toNat) M M).1) := fun a b La hb => hk _ ⟨m + 1, ew, by omega, by
    show (a, b) = bst (g14 45) (fun w => g14 45 w + g14 46 w) (fun w => g14 4 (g14 44 w).toInt.toNat) M m (bsf (g14 45) (fun w => g14 45 w + g14 46 w) (fun w => g14 4 (g14 44 w).toInt.toNat) M m)
    rw [← e1]; exact hb, rfl⟩
  unfold bst at fin
  rw [← q] at fin pos
  have take : ∀ La : lT, ¬ (x13 < v3) → (v3 < x13 ∨ ¬ v2 ≤ g14 45 m) → Pc (ck v4 72 (lti (g14 45 m) (fun x18 => k27 (x18, x13, (v4 + 1), g14, La)))) (fun x g1 _ => g1 = g14 ∧ x = if p1 = 0 then (bsf (g14 45) (fun w => g14 45 w + g14 46 w) (fun w => g14 4 (g14 44 w).toInt.toNat) M M).2 else (bsf (g14 45) (fun w => g14 45 w + g14 46 w) (fun w => g14 4 (g14 44 w).toInt.toNat) M M).1) := fun La n1 h2 => pc_ck (fun _ _ => pc_lti (fun x18 e18 => fin _ _ _ (by
    show (x18, x13) = if v3 < x13 then _ else _
    by_cases c1 : v3 < x13
    · rw [if_pos c1, e18]
    · rw [if_neg c1]
      have c1' := icc_nlt (m := v3.toInt) (n := x13.toInt) rfl rfl c1
      have n1' := icc_nlt (m := x13.toInt) (n := v3.toInt) rfl rfl n1
      have q3 : x13.toInt = v3.toInt := by omega
      rw [if_pos (ic_eq.mpr q3)]
      rcases h2 with h2 | h2
      · exact absurd h2 c1
      · rw [if_neg h2, e18])))
  refine pc_ite (fun c1 => fin _ _ _ ?_) (fun c1 => pc_ite (fun c2 => pc_ite (fun c3 => ?_) (fun c3 => pc_ck (fun _ _ => pc_ite (fun c4 => take _ c1 (Or.inr (fun hh => ?_))) (fun c4 => fin _ _ _ ?_)))) (fun c2 => take _ c1 (Or.inl ?_)))
  · have c1 := ic_lt.mp c1
    show (v2, v3) = if v3 < x13 then _ else _
    rw [if_neg (fun hh => by have := ic_lt.mp hh; omega), if_neg (fun hh : x13 = v3 => by rw [hh] at c1; omega)]
  · exfalso
    rcases inv with ⟨-, b⟩ | ⟨a, -⟩
    · rw [c2, b] at pos; exact absurd pos (by decide)
    · exact a c3
  · have := ic_lt.mp c4
    have := ic_le.mp hh
    omega
  · have c4 := icc_nlt (m := (g14 45 m).toInt) (n := v2.toInt) rfl rfl c4
    show (v2, v3) = if v3 < x13 then _ else _
    rw [if_neg (fun hh => by have := ic_lt.mp hh; rw [c2] at this; omega), if_pos c2, if_pos (ic_le.mpr c4)]
  · have c1 := icc_nlt (m := x13.toInt) (n := v3.toInt) rfl rfl c1
    have c2 := icc_neq (m := x13.toInt) (n := v3.toInt) rfl rfl c2
    exact ic_lt.mpr (by omega)
/-- both, with their ways -/
theorem bothw {fu : Nat} {g gm g1 g2 : gT} {L Lm L1 L2 : lT} {x y : Unit} (hS : CS g gm) (e1 : fX9_gather_12 fu g L = some (x, (g1, L1))) (e2 : fX12_ways fu (upd2 gm 0 0 0) Lm = some (y, (g2, L2))) : ∃ (cs : Nat → List Int) (M : Nat), (g1 12 5).toInt = (M : Int) ∧ (g2 0 79).toInt = (M : Int) ∧ M ≤ 72 ∧ RLs M (g1 53) (g1 54) (g1 55) (g1 56) (g2 45) (fun w => g2 45 w + g2 46 w) (fun w => g2 4 (g2 44 w).toInt.toNat) (g2 47) ∧ RG M (g2 45) (fun w => g2 45 w + g2 46 w) (fun w => g2 4 (g2 44 w).toInt.toNat) ∧ g2 0 0 = 0 ∧ SD (gm 0 1).toInt.toNat g1 g2 ∧ DC cs (gm 0 1).toInt.toNat g1 (upd2 gm 0 0 0) ∧ (g2 0 1).toInt = (((gm 0 1).toInt.toNat : Nat) : Int) := by
  have hN := nb_of hS (e0_u (x := 0))
  obtain ⟨cs, hX, hM, -⟩ := dc_all hS.1
  have hX := hX.d (e0_u (x := 0))
  have hM := hM.d (e0_u (x := 0))
  have hW := hM.2.1
  obtain ⟨x1, x2, x3⟩ := gather_x hX _ _ _ e1
  obtain ⟨⟨y1, y2⟩, y3, y4⟩ := ways_m hM (fun i hi => (hN.1 i hi).2.2) _ _ _ e2
  have u := DY.u hW x2 y3
  have len := wl_len (d := upd2 gm 0 0 0) (n := (gm 0 1).toInt.toNat) (fun i hi => by have := hM.2.2.1 i hi; omega) _ (Nat.le_refl _)
  have n12 := hM.1.2
  obtain ⟨r1, r2⟩ := rel hN hW (fun i hi => (u i hi).2.1) y3 (y1 4 (by decide) (by omega)) x3 y4
  refine ⟨cs, _, x3.1, y4.1, by omega, r1, r2, ?_, u, x1, ?_⟩
  · rw [y2 0 (by decide)]; exact upd2_at
  · rw [y2 1 (by decide)]; exact hM.1.1
theorem cr_busiest {fu : Nat} {p1 : Int32} {g gm g1 g2 : gT} {L Lm L1 L2 : lT} {rx : Except String Int32} {rm : Int32} (hS : CS g gm) (e1 : fX11_busiest_0 fu p1 g L = some (rx, (g1, L1))) (e2 : fX12_busiest fu p1 gm Lm = some (rm, (g2, L2))) : (rx = .ok rm ∧ g2 0 0 = 0) ∨ (rx = .error NSE ∧ g2 0 0 = 1) := by
  have a0 : upd2 gm 0 0 0 0 0 = 0 := upd2_at
  unfold fX11_busiest_0 fX11_busiest_0_p44 at e1
  unfold fX12_busiest at e2
  unfold sti at e2
  have e2 : cb (fX12_isWhat fu p1 1 (upd2 gm 0 0 0) Lm) _ = some (rm, (g2, L2)) := e2
  have i1 : (1 : Int32).toInt = 1 := rfl
  have i2 : (2 : Int32).toInt = 2 := rfl
  by_cases c2 : 0 ≤ p1.toInt ∧ p1.toInt ≤ (1 : Int32).toInt
  rotate_left
  · rw [xwhat0 (fun hh => c2 (by omega))] at e1
    have e1 : some (.error NSE, (g, L)) = some (rx, (g1, L1)) := e1
    rw [what0 a0 c2] at e2
    have e2 : some ((0 : Int32), (upd2 (upd2 gm 0 0 0) 0 0 1, Lm)) = some (rm, (g2, L2)) := e2
    cases e1; cases e2
    exact Or.inr ⟨rfl, upd2_at⟩
  rw [xwhat1 c2.1 (by omega), cbxs] at e1
  rw [what1 a0 c2.1 c2.2, cbs, if_neg (by decide)] at e2
  obtain ⟨xa, ga, La, ea, e1⟩ := cb_some e1
  obtain ⟨xb, gb, Lb, eb, e3⟩ := cb_some e1
  obtain ⟨xc, gc, Lc, ec, e2⟩ := cb_some e2
  obtain ⟨cs, M, m1, m2, m3, r1, r2, z0, -⟩ := bothw hS ea ec
  obtain ⟨rfl, u⟩ := busy_x m1 m3 _ _ _ eb
  obtain ⟨rfl, v⟩ := busy_m m2 m3 r2 _ _ _ e2
  have r1' := fun w hw => (⟨(r1 w hw).1, (r1 w hw).2.1, (r1 w hw).2.2.1⟩ : gb 53 w = g2 45 w ∧ gb 54 w = g2 45 w + g2 46 w ∧ gb 55 w = g2 4 (g2 44 w).toInt.toNat)
  rw [bsf_c r1' M (Nat.le_refl _)] at u
  have inv := bsf_i r2 M (Nat.le_refl _)
  rw [← u] at inv v
  by_cases c1 : p1 = 1
  · rw [if_pos c1] at e3
    cases e3
    refine Or.inl ⟨?_, z0⟩
    rw [v, if_neg (by rw [c1]; decide)]
  · rw [if_neg c1] at e3
    have c0 : p1 = 0 := by
      have q : ¬ p1.toInt = 1 := fun hh => c1 (ic_eq.mpr hh)
      exact ic_eq.mpr (by show p1.toInt = 0; omega)
    rw [if_pos c0] at v
    by_cases c3 : xb = -1
    · rw [if_pos c3] at e3
      cases e3
      refine Or.inl ⟨?_, z0⟩
      rcases inv with ⟨-, b⟩ | ⟨a, -⟩
      · rw [v, b]
      · exact absurd c3 a
    · rw [if_neg c3] at e3
      obtain ⟨xd, gd, Ld, ed, e4⟩ := cb_some e3
      cases e4
      obtain ⟨-, w⟩ := people_x m1 m3 _ _ _ ed
      refine Or.inl ⟨?_, z0⟩
      rcases inv with ⟨a, -⟩ | ⟨-, b⟩
      · exact absurd a c3
      · rw [v, b, w, fp_c r1']
