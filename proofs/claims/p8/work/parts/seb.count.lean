/-! ===== count answers alike ===== -/
def fo (f : Nat → Int32 → Int32) : Nat → Int32
  | 0 => 0
  | m + 1 => f m (fo f m)
theorem fo_c {f f' : Nat → Int32 → Int32} : ∀ {n : Nat}, (∀ i, i < n → ∀ a, f i a = f' i a) → fo f n = fo f' n := by
  intro n
  induction n with
  | zero => intro _; rfl
  | succ n ih =>
    intro h
    show f n (fo f n) = f' n (fo f' n)
    rw [ih (fun i hi => h i (by omega)), h n (by omega)]
def fLost (d : gT) (en : Nat → Int32) (i : Nat) (a : Int32) : Int32 := a + d 4 i * (en i - d 2 i)
def fOnes (d : gT) (en : Nat → Int32) (i : Nat) (a : Int32) : Int32 := a + (if en i - d 2 i ≤ 0 then 0 else 1)
def fMost (d : gT) (en : Nat → Int32) (i : Nat) (a : Int32) : Int32 := if a < en i - d 2 i then en i - d 2 i else a
def fBeg (d : gT) (bg : Nat → Int32) (i : Nat) (a : Int32) : Int32 := a + (if bg i ≤ d 1 i then 0 else 1)
section X
variable {cs : Nat → List Int} {n fu : Nat} {g d : gT} {L : lT}
theorem lost_x (h : DC cs n g d) : Pc (fX1_lost_8 fu g L) (fun x g1 _ => g1 = g ∧ x = fo (fLost d (g 44)) n) := by
  have hn := h.1
  unfold fX1_lost_8 fX1_lost_8_l4
  refine pc_loop (fun v => ∃ m : Nat, v.2.1.toInt = (m : Int) ∧ m ≤ n ∧ v.1 = fo (fLost d (g 44)) m ∧ v.2.2.1 = g) (fun k hk v hv => ?_) ⟨0, rfl, by omega, rfl, rfl⟩
  obtain ⟨v1, v2, g', L'⟩ := v
  obtain ⟨m, hm, mn, e1, eg⟩ := hv
  replace hm : v2.toInt = (m : Int) := hm
  replace e1 : v1 = fo (fLost d (g 44)) m := e1
  replace eg : g' = g := eg
  subst eg
  show Pc (fX1_lost_8_s4 fu k v1 v2 g' L') _
  unfold fX1_lost_8_s4
  have ei : v2.toNatClampNeg = m := by rw [nc, hm]; omega
  refine pc_ite (fun c => pc_some ⟨rfl, ?_⟩) (fun c => ?_)
  · have c := icc_le hn.1 hm c
    rw [e1, show m = n by omega]
  have c := icc_nle hn.1 hm c
  rw [ei, show m % 12 = m by omega]
  refine pc_ck (fun _ _ => pc_ltn (fun q eq => pc_cb (late_x h hm (by omega)) (fun x3 g4 L5 e3 => pc_lti (fun x7 e7 => hk _ ⟨m + 1, ?_, by omega, ?_, e3.1⟩))))
  · show (v2 + 1).toInt = _
    rw [ic_addc hm (n := 1) rfl (by omega) (by omega)]; omega
  · show x7 = fLost d (g' 44) m (fo (fLost d (g' 44)) m)
    rw [e7, eq, (h.2.1 m (by omega)).1.1.2.2.2, e3.2, e1]; rfl
theorem ones_x (h : DC cs n g d) : Pc (fX1_lateOnes_8 fu g L) (fun x g1 _ => g1 = g ∧ x = fo (fOnes d (g 44)) n) := by
  have hn := h.1
  unfold fX1_lateOnes_8 fX1_lateOnes_8_l4
  refine pc_loop (fun v => ∃ m : Nat, v.2.1.toInt = (m : Int) ∧ m ≤ n ∧ v.1 = fo (fOnes d (g 44)) m ∧ v.2.2.1 = g) (fun k hk v hv => ?_) ⟨0, rfl, by omega, rfl, rfl⟩
  obtain ⟨v1, v2, g', L'⟩ := v
  obtain ⟨m, hm, mn, e1, eg⟩ := hv
  replace hm : v2.toInt = (m : Int) := hm
  replace e1 : v1 = fo (fOnes d (g 44)) m := e1
  replace eg : g' = g := eg
  subst eg
  show Pc (fX1_lateOnes_8_s4 fu k v1 v2 g' L') _
  unfold fX1_lateOnes_8_s4 fX1_lateOnes_8_p29
  refine pc_ite (fun c => pc_some ⟨rfl, ?_⟩) (fun c => ?_)
  · have c := icc_le hn.1 hm c
    rw [e1, show m = n by omega]
  have c := icc_nle hn.1 hm c
  have ew : (v2 + 1).toInt = ((m + 1 : Nat) : Int) := by rw [ic_addc hm (n := 1) rfl (by omega) (by omega)]; omega
  refine pc_cb (late_x h hm (by omega)) (fun x2 g3 L4 e2 => pc_ite (fun c1 => pc_lti (fun x6 e6 => hk _ ⟨m + 1, ew, by omega, ?_, e2.1⟩)) (fun c1 => pc_lti (fun x6 e6 => hk _ ⟨m + 1, ew, by omega, ?_, e2.1⟩)))
  · show x6 = fOnes d (g' 44) m (fo (fOnes d (g' 44)) m)
    rw [e2.2] at c1
    unfold fOnes; rw [if_pos c1, e6, e1]; rfl
  · show x6 = fOnes d (g' 44) m (fo (fOnes d (g' 44)) m)
    rw [e2.2] at c1
    unfold fOnes; rw [if_neg c1, e6, e1]; rfl
theorem most_x (h : DC cs n g d) : Pc (fX1_latest_8 fu g L) (fun x g1 _ => g1 = g ∧ x = fo (fMost d (g 44)) n) := by
  have hn := h.1
  unfold fX1_latest_8 fX1_latest_8_l4
  refine pc_loop (fun v => ∃ m : Nat, v.2.1.toInt = (m : Int) ∧ m ≤ n ∧ v.1 = fo (fMost d (g 44)) m ∧ v.2.2.1 = g) (fun k hk v hv => ?_) ⟨0, rfl, by omega, rfl, rfl⟩
  obtain ⟨v1, v2, g', L'⟩ := v
  obtain ⟨m, hm, mn, e1, eg⟩ := hv
  replace hm : v2.toInt = (m : Int) := hm
  replace e1 : v1 = fo (fMost d (g 44)) m := e1
  replace eg : g' = g := eg
  subst eg
  show Pc (fX1_latest_8_s4 fu k v1 v2 g' L') _
  unfold fX1_latest_8_s4
  refine pc_ite (fun c => pc_some ⟨rfl, ?_⟩) (fun c => ?_)
  · have c := icc_le hn.1 hm c
    rw [e1, show m = n by omega]
  have c := icc_nle hn.1 hm c
  have ew : (v2 + 1).toInt = ((m + 1 : Nat) : Int) := by rw [ic_addc hm (n := 1) rfl (by omega) (by omega)]; omega
  refine pc_cb (late_x h hm (by omega)) (fun x2 g3 L4 e2 => pc_lti (fun x6 e6 => hk _ ⟨m + 1, ew, by omega, ?_, e2.1⟩))
  show x6 = fMost d (g' 44) m (fo (fMost d (g' 44)) m)
  rw [e6, e2.2, e1]; rfl
theorem beg_x (h : DC cs n g d) : Pc (fX1_begunLater_8 fu g L) (fun x g1 _ => g1 = g ∧ x = fo (fBeg d (g 43)) n) := by
  have hn := h.1
  unfold fX1_begunLater_8 fX1_begunLater_8_l4
  refine pc_loop (fun v => ∃ m : Nat, v.2.1.toInt = (m : Int) ∧ m ≤ n ∧ v.1 = fo (fBeg d (g 43)) m ∧ v.2.2.1 = g) (fun k hk v hv => ?_) ⟨0, rfl, by omega, rfl, rfl⟩
  obtain ⟨v1, v2, g', L'⟩ := v
  obtain ⟨m, hm, mn, e1, eg⟩ := hv
  replace hm : v2.toInt = (m : Int) := hm
  replace e1 : v1 = fo (fBeg d (g 43)) m := e1
  replace eg : g' = g := eg
  subst eg
  show Pc (fX1_begunLater_8_s4 fu k v1 v2 g' L') _
  unfold fX1_begunLater_8_s4 fX1_begunLater_8_p42
  have ei : v2.toNatClampNeg = m := by rw [nc, hm]; omega
  refine pc_ite (fun c => pc_some ⟨rfl, ?_⟩) (fun c => ?_)
  · have c := icc_le hn.1 hm c
    rw [e1, show m = n by omega]
  have c := icc_nle hn.1 hm c
  have ew : (v2 + 1).toInt = ((m + 1 : Nat) : Int) := by rw [ic_addc hm (n := 1) rfl (by omega) (by omega)]; omega
  rw [ei, show m % 12 = m by omega]
  refine pc_ck (fun _ _ => pc_ck (fun _ _ => pc_ltn (fun q eq => ?_)))
  rw [eq, (h.2.1 m (by omega)).1.1.1]
  refine pc_ite (fun c1 => pc_lti (fun x6 e6 => hk _ ⟨m + 1, ew, by omega, ?_, rfl⟩)) (fun c1 => pc_lti (fun x6 e6 => hk _ ⟨m + 1, ew, by omega, ?_, rfl⟩))
  · show x6 = fBeg d (g' 43) m (fo (fBeg d (g' 43)) m)
    unfold fBeg; rw [if_pos c1, e6, e1]; rfl
  · show x6 = fBeg d (g' 43) m (fo (fBeg d (g' 43)) m)
    unfold fBeg; rw [if_neg c1, e6, e1]; rfl
theorem lost_m (e : Em d g) (hn : (d 0 1).toInt = (n : Int)) (n12 : n ≤ 12) : Pc (fX12_lost_l8 fu 0 0 g L) (fun x g1 _ => g1 = g ∧ x = fo (fLost d (g 32)) n) := by
  unfold fX12_lost_l8
  have e01 : (g 0 1).toInt = (n : Int) := by rw [e 0 (by omega)]; exact hn
  refine pc_loop (fun v => ∃ m : Nat, v.2.1.toInt = (m : Int) ∧ m ≤ n ∧ v.1 = fo (fLost d (g 32)) m ∧ v.2.2.1 = g) (fun k hk v hv => ?_) ⟨0, rfl, by omega, rfl, rfl⟩
  obtain ⟨v1, v2, g', L'⟩ := v
  obtain ⟨m, hm, mn, e1, eg⟩ := hv
  replace hm : v2.toInt = (m : Int) := hm
  replace e1 : v1 = fo (fLost d (g 32)) m := e1
  replace eg : g' = g := eg
  subst eg
  show Pc (fX12_lost_s8 fu k v1 v2 g' L') _
  unfold fX12_lost_s8
  have ei : v2.toNatClampNeg = m := by rw [nc, hm]; omega
  refine pc_ite (fun c => pc_some ⟨rfl, ?_⟩) (fun c => ?_)
  · have c := icc_le e01 hm c
    rw [e1, show m = n by omega]
  have c := icc_nle e01 hm c
  rw [ei, e 4 (by omega)]
  refine pc_ck (fun _ _ => pc_cb (late_m e hm) (fun x3 g4 L5 e3 => pc_lti (fun x7 e7 => hk _ ⟨m + 1, ?_, by omega, ?_, e3.1⟩)))
  · show (v2 + 1).toInt = _
    rw [ic_addc hm (n := 1) rfl (by omega) (by omega)]; omega
  · show x7 = fLost d (g' 32) m (fo (fLost d (g' 32)) m)
    rw [e7, e3.2, e1]; rfl
/-- lateness: how many late, how late at most, how many begun later -/
def fLn (w : Int) (d : gT) (bg en : Nat → Int32) (i : Nat) (a : Int32) : Int32 := if w = 13 then fMost d en i a else if w = 12 then fOnes d en i a else fBeg d bg i a
theorem ln_m {p1 : Int32} (e : Em d g) (hn : (d 0 1).toInt = (n : Int)) (n12 : n ≤ 12) : Pc (fX12_lateness_l8 fu p1 0 0 g L) (fun x g1 _ => g1 = g ∧ x = fo (fLn p1.toInt d (g 31) (g 32)) n) := by
  unfold fX12_lateness_l8
  have e01 : (g 0 1).toInt = (n : Int) := by rw [e 0 (by omega)]; exact hn
  refine pc_loop (fun v => ∃ m : Nat, v.2.1.toInt = (m : Int) ∧ m ≤ n ∧ v.1 = fo (fLn p1.toInt d (g 31) (g 32)) m ∧ v.2.2.1 = g) (fun k hk v hv => ?_) ⟨0, rfl, by omega, rfl, rfl⟩
  obtain ⟨v2, v3, g', L'⟩ := v
  obtain ⟨m, hm, mn, e1, eg⟩ := hv
  replace hm : v3.toInt = (m : Int) := hm
  replace e1 : v2 = fo (fLn p1.toInt d (g 31) (g 32)) m := e1
  replace eg : g' = g := eg
  subst eg
  show Pc (fX12_lateness_s8 fu p1 k v2 v3 g' L') _
  unfold fX12_lateness_s8 fX12_lateness_p40 fX12_lateness_p77 fX12_lateness_p81 fX12_lateness_p82 fX12_lateness_p84
  have ei : v3.toNatClampNeg = m := by rw [nc, hm]; omega
  refine pc_ite (fun c => pc_some ⟨rfl, ?_⟩) (fun c => ?_)
  · have c := icc_le e01 hm c
    rw [e1, show m = n by omega]
  have c := icc_nle e01 hm c
  have ew : (v3 + 1).toInt = ((m + 1 : Nat) : Int) := by rw [ic_addc hm (n := 1) rfl (by omega) (by omega)]; omega
  have nx : ∀ (x : Int32) (ga : gT) (La : lT), ga = g' → x = fLn p1.toInt d (g' 31) (g' 32) m v2 → Pc (k (x, (v3 + 1), ga, La)) (fun x g1 _ => g1 = g' ∧ x = fo (fLn p1.toInt d (g' 31) (g' 32)) n) := fun x ga La h1 h2 => hk _ ⟨m + 1, ew, by omega, by rw [e1] at h2; exact h2, h1⟩
  refine pc_ite (fun c1 => ?_) (fun c1 => pc_ite (fun c2 => ?_) (fun c2 => ?_))
  · have c1 : p1.toInt = 13 := icc_eq (n := 13) rfl rfl c1
    have ef : fLn p1.toInt d (g' 31) (g' 32) m v2 = fMost d (g' 32) m v2 := by unfold fLn; rw [if_pos c1]
    refine pc_cb (late_m e hm) (fun x15 g16 L17 e15 => pc_ite (fun c3 => nx _ _ _ e15.1 ?_) (fun c3 => pc_cb (late_m (d := d) (by rw [e15.1]; exact e) hm) (fun x20 g21 L22 e20 => nx _ _ _ (e20.1.trans e15.1) ?_)))
    · rw [ef]; unfold fMost
      rw [e15.2] at c3
      have c3 := ic_le.mp c3
      rw [if_neg (fun h => by have := ic_lt.mp h; omega)]
    · rw [ef]; unfold fMost
      rw [e15.2] at c3
      have c3 := icc_nle (m := (g' 32 m - d 2 m).toInt) (n := v2.toInt) rfl rfl c3
      rw [if_pos (ic_lt.mpr c3), e20.2, e15.1]
  · have c1 : ¬ p1.toInt = 13 := icc_neq (n := 13) rfl rfl c1
    have c2 : p1.toInt = 12 := icc_eq (n := 12) rfl rfl c2
    have ef : fLn p1.toInt d (g' 31) (g' 32) m v2 = fOnes d (g' 32) m v2 := by unfold fLn; rw [if_neg c1, if_pos c2]
    refine pc_cb (late_m e hm) (fun x10 g11 L12 e10 => pc_ite (fun c3 => pc_lti (fun x7 e7 => nx _ _ _ e10.1 ?_)) (fun c3 => pc_lti (fun x7 e7 => nx _ _ _ e10.1 ?_)))
    · rw [e10.2] at c3
      rw [ef, e7]; unfold fOnes; rw [if_pos c3]
    · rw [e10.2] at c3
      rw [ef, e7]; unfold fOnes; rw [if_neg c3]
  · have c1 : ¬ p1.toInt = 13 := icc_neq (n := 13) rfl rfl c1
    have c2 : ¬ p1.toInt = 12 := icc_neq (n := 12) rfl rfl c2
    have ef : fLn p1.toInt d (g' 31) (g' 32) m v2 = fBeg d (g' 31) m v2 := by unfold fLn; rw [if_neg c1, if_neg c2]
    rw [ei, e 1 (by omega)]
    refine pc_ck (fun _ _ => pc_ck (fun _ _ => pc_ite (fun c3 => pc_lti (fun x7 e7 => nx _ _ _ rfl ?_)) (fun c3 => pc_lti (fun x7 e7 => nx _ _ _ rfl ?_))))
    · rw [ef, e7]; unfold fBeg; rw [if_pos c3]
    · rw [ef, e7]; unfold fBeg; rw [if_neg c3]
end X
theorem cr_count {fu : Nat} {p1 : Int32} {g gm g1 g2 : gT} {L Lm L1 L2 : lT} {rx : Except String Int32} {rm : Int32} (h : CR g gm) (e1 : fX11_count_0 fu p1 g L = some (rx, (g1, L1))) (e2 : fX12_count fu p1 gm Lm = some (rm, (g2, L2))) : (rx = .ok rm ∧ g2 0 0 = 0) ∨ (rx = .error NSE ∧ g2 0 0 = 1) := by
  have hp := h.1.1
  have hI := hp.2.1
  obtain ⟨k1, k2, k3, k4, -⟩ := hp.2.2.2.2.2.2.1
  have t1 : g 0 13 = gm 0 18 := hp.2.2.2.1.1
  obtain ⟨⟨-, d3, d4, -⟩, ⟨-, d11, -⟩, -, d15, -⟩ := h.1.2
  have r1 := hI 0 1 0 12 rfl
  have a0 : upd2 gm 0 0 0 0 0 = 0 := upd2_at
  have nk : ∀ j, j ≠ 0 → upd2 gm 0 0 0 0 j = gm 0 j := fun j hj => upd2_nj hj
  unfold fX11_count_0 at e1
  unfold fX12_count at e2
  unfold sti at e2
  have e2 : cb (fX12_within fu p1 0 14 (upd2 gm 0 0 0) Lm) _ = some (rm, (g2, L2)) := e2
  have i14 : (14 : Int32).toInt = 14 := rfl
  have i15 : (15 : Int32).toInt = 15 := rfl
  have i0 : (0 : Int32).toInt = 0 := rfl
  by_cases c : 0 ≤ p1.toInt ∧ p1.toInt ≤ 14
  rotate_left
  · rw [xwhat0 (fun hh => c (by omega))] at e1
    have e1 : some (.error NSE, (g, L)) = some (rx, (g1, L1)) := e1
    rw [within0 (fun hh => c (by omega)), cbs, right0 a0 (by decide), cbs, if_pos rfl] at e2
    cases e1; cases e2
    exact Or.inr ⟨rfl, upd2_at⟩
  rw [xwhat1 c.1 (by omega), cbxs] at e1
  rw [within1 (by omega) (by omega), cbs, right1 a0, cbs, if_neg (by decide)] at e2
  have done : ∀ {u v : Int32} {La' Lb' : lT}, some ((.ok u : Except String Int32), ((g, La') : zS)) = some (rx, (g1, L1)) → some (v, ((upd2 gm 0 0 0, Lb') : zS)) = some (rm, (g2, L2)) → u = v → (rx = .ok rm ∧ g2 0 0 = 0) ∨ (rx = .error NSE ∧ g2 0 0 = 1) := by
    intro u v La' Lb' x y w
    cases x; cases y
    exact Or.inl ⟨by rw [w], a0⟩
  by_cases c11 : p1.toInt ≤ 11
  · rw [if_pos (ic_le.mpr c11)] at e2
    by_cases c7 : p1.toInt = 7
    · simp only [c7] at e1 e2
      have e1 : cb (fX11_countOfDay_0 fu p1 g L) (fun x13 g14 L15 => some ((.ok x13 : Except String Int32), (g14, L15))) = some (rx, (g1, L1)) := e1
      have e2 : cb (fX12_lost fu (upd2 gm 0 0 0) Lm) (fun x20 g21 L22 => some (x20, (g21, L22))) = some (rm, (g2, L2)) := e2
      obtain ⟨xa, ga, La, ea, e1⟩ := cb_some e1
      obtain ⟨xb, gb, Lb, eb, e2⟩ := cb_some e2
      cases e1; cases e2
      unfold fX11_countOfDay_0 at ea
      unfold fX12_lost at eb
      obtain ⟨y1, gc, Lc, ec, ea⟩ := cb_some ea
      obtain ⟨y2, gd, Ld, ed, eb⟩ := cb_some eb
      rw [if_pos c7] at ea
      obtain ⟨y3, ge, Le, ee, ea⟩ := cb_some ea
      cases ea
      obtain ⟨cs, hS, hX, hM, hW⟩ := both h e0_u ec ed
      obtain ⟨-, u⟩ := lost_x hX _ _ _ ee
      obtain ⟨v0, v⟩ := lost_m hW.2 hM.1.1 hM.1.2 _ _ _ eb
      refine Or.inl ⟨?_, by rw [v0, works_0 ed]; exact a0⟩
      have w : fo (fLost (upd2 gm 0 0 0) (gc 44)) (gm 0 1).toInt.toNat = fo (fLost (upd2 gm 0 0 0) (gd 32)) (gm 0 1).toInt.toNat := fo_c (fun i hi a => by unfold fLost; rw [(hS i hi).2.1])
      rw [u, v, w]
    · have ckm : ∀ {K : Option (Int32 × zS)}, 9 ≤ p1.toInt → ck (p1 - 9) 3 K = K := fun h9 => by
        have e := ic_subc (x := p1) (y := 9) rfl (n := 9) rfl (by omega) (by omega)
        exact ck_eq (by omega) (by omega)
      have n9 : 9 ≤ p1.toInt → (p1 - 9).toNatClampNeg = p1.toInt.toNat - 9 := fun h9 => by
        rw [nc, ic_subc (n := 9) rfl rfl (by omega) (by omega)]; omega
      rcases (by omega : p1.toInt = 0 ∨ p1.toInt = 1 ∨ p1.toInt = 2 ∨ p1.toInt = 3 ∨ p1.toInt = 4 ∨ p1.toInt = 5 ∨ p1.toInt = 6 ∨ p1.toInt = 8 ∨ p1.toInt = 9 ∨ p1.toInt = 10 ∨ p1.toInt = 11) with q | q | q | q | q | q | q | q | q | q | q
      · simp only [q] at e1 e2
        exact done e1 e2 (by rw [nk 1 (by decide)]; exact k1)
      · simp only [q] at e1 e2
        exact done e1 e2 (by rw [nk 2 (by decide)]; exact k2)
      · simp only [q] at e1 e2
        exact done e1 e2 (by rw [nk 52 (by decide)]; exact d11)
      · simp only [q] at e1 e2
        exact done e1 e2 (by rw [nk 3 (by decide)]; exact d3)
      · simp only [q] at e1 e2
        exact done e1 e2 (by rw [nk 4 (by decide)]; exact d4)
      · simp only [q] at e1 e2
        exact done e1 e2 (by rw [nk 62 (by decide)]; exact k3)
      · simp only [q] at e1 e2
        exact done e1 e2 (by rw [nk 73 (by decide)]; exact k4)
      · simp only [q] at e1 e2
        exact done e1 e2 (by rw [nk 18 (by decide)]; exact t1)
      · rw [ckm (by omega), n9 (by omega)] at e2
        simp only [q] at e1 e2
        exact done e1 e2 (by rw [upd2_nk (by decide)]; exact d15 0 (by decide))
      · rw [ckm (by omega), n9 (by omega)] at e2
        simp only [q] at e1 e2
        exact done e1 e2 (by rw [upd2_nk (by decide)]; exact d15 1 (by decide))
      · rw [ckm (by omega), n9 (by omega)] at e2
        simp only [q] at e1 e2
        exact done e1 e2 (by rw [upd2_nk (by decide)]; exact d15 2 (by decide))
  · rw [if_neg (fun e => c11 (ic_le.mp e))] at e2
    have e1 : cb (fX11_countOfDay_0 fu p1 g L) (fun x13 g14 L15 => some ((.ok x13 : Except String Int32), (g14, L15))) = some (rx, (g1, L1)) := by
      rw [if_neg (by omega), if_neg (by omega), if_neg (by omega), if_neg (by omega), if_neg (by omega), if_neg (by omega), if_neg (by omega), if_neg (by omega), if_neg (by omega), if_neg (by omega), if_neg (by omega), if_neg (by omega)] at e1
      exact e1
    obtain ⟨xa, ga, La, ea, e1⟩ := cb_some e1
    obtain ⟨xb, gb, Lb, eb, e2⟩ := cb_some e2
    cases e1; cases e2
    unfold fX11_countOfDay_0 at ea
    unfold fX12_lateness at eb
    obtain ⟨y1, gc, Lc, ec, ea⟩ := cb_some ea
    obtain ⟨y2, gd, Ld, ed, eb⟩ := cb_some eb
    obtain ⟨cs, hS, hX, hM, hW⟩ := both h e0_u ec ed
    obtain ⟨v0, v⟩ := ln_m hW.2 hM.1.1 hM.1.2 _ _ _ eb
    refine Or.inl ⟨?_, by rw [v0, works_0 ed]; exact a0⟩
    rw [if_neg (by omega)] at ea
    rcases (by omega : p1.toInt = 12 ∨ p1.toInt = 13 ∨ p1.toInt = 14) with q | q | q
    · rw [if_pos q] at ea
      obtain ⟨y3, ge, Le, ee, ea⟩ := cb_some ea
      cases ea
      obtain ⟨-, u⟩ := ones_x hX _ _ _ ee
      have w : fo (fOnes (upd2 gm 0 0 0) (gc 44)) (gm 0 1).toInt.toNat = fo (fLn p1.toInt (upd2 gm 0 0 0) (gd 31) (gd 32)) (gm 0 1).toInt.toNat := fo_c (fun i hi a => by unfold fLn; rw [if_neg (by omega), if_pos q]; unfold fOnes; rw [(hS i hi).2.1])
      rw [u, v, w]
    · rw [if_neg (by omega), if_pos q] at ea
      obtain ⟨y3, ge, Le, ee, ea⟩ := cb_some ea
      cases ea
      obtain ⟨-, u⟩ := most_x hX _ _ _ ee
      have w : fo (fMost (upd2 gm 0 0 0) (gc 44)) (gm 0 1).toInt.toNat = fo (fLn p1.toInt (upd2 gm 0 0 0) (gd 31) (gd 32)) (gm 0 1).toInt.toNat := fo_c (fun i hi a => by unfold fLn; rw [if_pos q]; unfold fMost; rw [(hS i hi).2.1])
      rw [u, v, w]
    · rw [if_neg (by omega), if_neg (by omega)] at ea
      obtain ⟨y3, ge, Le, ee, ea⟩ := cb_some ea
      cases ea
      obtain ⟨-, u⟩ := beg_x hX _ _ _ ee
      have w : fo (fBeg (upd2 gm 0 0 0) (gc 43)) (gm 0 1).toInt.toNat = fo (fLn p1.toInt (upd2 gm 0 0 0) (gd 31) (gd 32)) (gm 0 1).toInt.toNat := fo_c (fun i hi a => by unfold fLn; rw [if_neg (by omega), if_neg (by omega)]; unfold fBeg; rw [(hS i hi).1])
      rw [u, v, w]
