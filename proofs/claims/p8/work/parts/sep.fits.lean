/-! ===== fits answers alike ===== -/
/-- all that was seen is so, at these ends -/
def SQ (d : gT) (M : Nat) (en : Nat → Int32) : Prop := ∀ k, k < M → en (d 43 (2 * k)).toInt.toNat - d 2 (d 43 (2 * k)).toInt.toNat = d 43 (2 * k + 1)
/-- it is so if lesson l runs over by m -/
def SE (cs : Nat → List Int) (n : Nat) (d : gT) (M l m : Nat) : Prop := ∃ bg en ru by_, DY cs (upd2 d 12 l (Int32.ofInt (m : Int))) n bg en ru by_ ∧ SQ d M en
/-- what was seen is of lessons that there are -/
def SO (d : gT) (M n : Nat) : Prop := ∀ k, k < M → 0 ≤ (d 43 (2 * k)).toInt ∧ (d 43 (2 * k)).toInt < (n : Int)
theorem se_iff {cs : Nat → List Int} {n M l m : Nat} {d : gT} {bg en ru by_ : Nat → Int32} (hW : WF n d) (hs : SO d M n) (h : DY cs (upd2 d 12 l (Int32.ofInt (m : Int))) n bg en ru by_) : SE cs n d M l m ↔ SQ d M en := by
  constructor
  · intro ⟨b1, e1, r1, y1, h1, h2⟩ k hk
    have u := DY.u (wf_p hW) h h1 (d 43 (2 * k)).toInt.toNat (by have := hs k hk; omega)
    rw [u.2.1]; exact h2 k hk
  · intro h2; exact ⟨_, _, _, _, h, h2⟩
abbrev T3 : Type := Int32 × Int32 × Int32
/-- one more fits -/
def stF (l m : Nat) (s : T3) : T3 := (s.1 + 1, (if s.1 = 0 then 100 * Int32.ofInt (l : Int) + Int32.ofInt (m : Int) else s.2.1), (if s.1 = 0 then Int32.ofInt (l : Int) else if s.2.2 = Int32.ofInt (l : Int) then s.2.2 else -1))
noncomputable def fsP (P : Prop) (l m : Nat) (s : T3) : T3 := @ite T3 P (Classical.propDecidable P) (stF l m s) s
theorem fsP_t {P : Prop} {l m : Nat} {s : T3} (h : P) : fsP P l m s = stF l m s := @if_pos P (Classical.propDecidable P) h T3 _ _
theorem fsP_f {P : Prop} {l m : Nat} {s : T3} (h : ¬ P) : fsP P l m s = s := @if_neg P (Classical.propDecidable P) h T3 _ _
noncomputable def ftS (B : Nat → Nat → Prop) : Nat → T3
  | 0 => (0, -1, -1)
  | k + 1 => fsP (B (k / 31) (k % 31)) (k / 31) (k % 31) (ftS B k)
theorem ftS_s {B : Nat → Nat → Prop} {l m : Nat} (h : m < 31) : ftS B (31 * l + (m + 1)) = fsP (B l m) l m (ftS B (31 * l + m)) := by
  show fsP (B ((31 * l + m) / 31) ((31 * l + m) % 31)) ((31 * l + m) / 31) ((31 * l + m) % 31) (ftS B (31 * l + m)) = _
  rw [show (31 * l + m) / 31 = l by omega, show (31 * l + m) % 31 = m by omega]
theorem ftS_b {B : Nat → Nat → Prop} : ∀ k : Nat, k ≤ 1000 → 0 ≤ (ftS B k).1.toInt ∧ (ftS B k).1.toInt ≤ (k : Int) := by
  intro k
  induction k with
  | zero =>
    intro _
    show 0 ≤ (0 : Int32).toInt ∧ (0 : Int32).toInt ≤ ((0 : Nat) : Int)
    decide
  | succ k ih =>
    intro hk
    have a := ih (by omega)
    show 0 ≤ (fsP _ _ _ (ftS B k)).1.toInt ∧ (fsP _ _ _ (ftS B k)).1.toInt ≤ _
    by_cases c : B (k / 31) (k % 31)
    · rw [fsP_t c]
      have e : ((ftS B k).1 + 1).toInt = (ftS B k).1.toInt + 1 := ic_addc rfl (n := 1) rfl (by omega) (by omega)
      show 0 ≤ ((ftS B k).1 + 1).toInt ∧ ((ftS B k).1 + 1).toInt ≤ _
      rw [e]; omega
    · rw [fsP_f c]; omega
/-- what the class's Trials hold -/
def TR (g : gT) (s : T3) : Prop := g 9 4 = s.1 ∧ g 9 5 = s.2.1 ∧ g 9 6 = s.2.2
theorem TR.c {g g' : gT} {s : T3} (h : TR g s) (e : g' 9 = g 9) : TR g' s := by unfold TR; rw [e]; exact h
theorem addB_x {fu l m : Nat} {p1 p2 : Int32} {g : gT} {L : lT} {s : T3} (h : TR g s) (h1 : p1.toInt = (l : Int)) (h2 : p2.toInt = (m : Int)) : Pc (fX10_addBeginner_9 fu p1 p2 g L) (fun _ g1 _ => TR g1 (stF l m s) ∧ ∀ k, k ≠ 9 → g1 k = g k) := by
  obtain ⟨a, b, c⟩ := h
  have i1 : Int32.ofInt (l : Int) = p1 := by rw [← h1]; exact io_i
  have i2 : Int32.ofInt (m : Int) = p2 := by rw [← h2]; exact io_i
  unfold fX10_addBeginner_9 fX10_addBeginner_9_p38 stF
  rw [i1, i2, a, c]
  refine pc_ite (fun c1 => ?_) (fun c1 => pc_ite (fun c2 => ?_) (fun c2 => ?_))
  · rw [if_pos c1, if_pos c1]
    refine pc_st (fun g5 e5 => pc_st (fun g6 e6 => pc_st (fun g7 e7 => pc_some ⟨⟨?_, ?_, ?_⟩, fun k hk => ?_⟩)))
    · rw [e7, upd2_at, e6, upd2_nj (by decide), e5, upd2_nj (by decide), a]
    · rw [e7, upd2_nj (by decide), e6, upd2_nj (by decide), e5, upd2_at]
    · rw [e7, upd2_nj (by decide), e6, upd2_at]
    · rw [e7, e6, e5]; exact funext fun _ => by rw [upd2_nk hk, upd2_nk hk, upd2_nk hk]
  · rw [if_neg c1, if_neg c1, if_pos c2]
    refine pc_st (fun g7 e7 => pc_some ⟨⟨?_, ?_, ?_⟩, fun k hk => ?_⟩)
    · rw [e7, upd2_at]
    · rw [e7, upd2_nj (by decide)]; exact b
    · rw [e7, upd2_nj (by decide)]; exact c
    · rw [e7]; exact funext fun _ => upd2_nk hk
  · rw [if_neg c1, if_neg c1, if_neg c2]
    refine pc_st (fun g4 e4 => pc_st (fun g7 e7 => pc_some ⟨⟨?_, ?_, ?_⟩, fun k hk => ?_⟩))
    · rw [e7, upd2_at, e4, upd2_nj (by decide), a]
    · rw [e7, upd2_nj (by decide), e4, upd2_nj (by decide)]; exact b
    · rw [e7, upd2_nj (by decide), e4, upd2_at]
    · rw [e7, e4]; exact funext fun _ => by rw [upd2_nk hk, upd2_nk hk]
theorem seen_x {cs : Nat → List Int} {n M fu : Nat} {g d d' : gT} {L : lT} (h : DC cs n g d') (h2 : d' 2 = d 2) (hM : (g 6 10).toInt = (M : Int)) (hS : ∀ k, k < M → g 32 k = d 43 (2 * k) ∧ g 33 k = d 43 (2 * k + 1)) (hs : SO d M n) : Pc (fX10_isAsSeen_9 fu g L) (fun x g1 _ => g1 = g ∧ ((x = 0 ∧ ¬ SQ d M (g 44)) ∨ (¬ x = 0 ∧ SQ d M (g 44)))) := by
  unfold fX10_isAsSeen_9 fX10_isAsSeen_9_l2
  refine pc_loop (fun v => ∃ m : Nat, v.1.toInt = (m : Int) ∧ m ≤ M ∧ v.2.1 = g ∧ ∀ k, k < m → g 44 (d 43 (2 * k)).toInt.toNat - d 2 (d 43 (2 * k)).toInt.toNat = d 43 (2 * k + 1)) (fun k2 hk v hv => ?_) ⟨0, rfl, by omega, rfl, fun k hk => absurd hk (Nat.not_lt_zero _)⟩
  obtain ⟨v1, g', L'⟩ := v
  obtain ⟨m, hm, mM, eg, ha⟩ := hv
  replace hm : v1.toInt = (m : Int) := hm
  replace eg : g' = g := eg
  subst eg
  show Pc (fX10_isAsSeen_9_s2 fu k2 v1 g' L') _
  unfold fX10_isAsSeen_9_s2
  have ei : v1.toNatClampNeg = m := by rw [nc, hm]; omega
  refine pc_ite (fun c => pc_ckb (pc_some ⟨rfl, Or.inr ⟨by decide, ?_⟩⟩)) (fun c => ?_)
  · have c := icc_le hM hm c
    have em : m = M := by omega
    rw [em] at ha; exact ha
  · have c := icc_nle hM hm c
    obtain ⟨s1, s2⟩ := hS m (by omega)
    have so := hs m (by omega)
    rw [ei, s1]
    refine pc_ck (fun _ _ => pc_cb (late_x h (i := (d 43 (2 * m)).toInt.toNat) (by omega) (by omega)) (fun x2 g3 L4 e => ?_))
    obtain ⟨rfl, e⟩ := e
    rw [h2] at e
    rw [s2]
    refine pc_ck (fun _ _ => pc_ite (fun c1 => hk _ ⟨m + 1, ?_, by omega, rfl, fun k hk => ?_⟩) (fun c1 => pc_ckb (pc_some ⟨rfl, Or.inl ⟨rfl, fun hh => c1 ?_⟩⟩)))
    · show (v1 + 1).toInt = _
      rw [ic_addc hm (n := 1) rfl (by omega) (by omega)]; omega
    · by_cases q : k = m
      · rw [q, ← e]; exact c1
      · exact ha k (by omega)
    · rw [e]; exact hh m (by omega)
theorem seen_m {cs : Nat → List Int} {n M fu : Nat} {d d' : gT} {L : lT} (hMD : MD cs n d') (h2 : d' 2 = d 2) (h43 : d' 43 = d 43) (hM : (d' 0 73).toInt = (M : Int)) (M8 : M ≤ 8) (hs : SO d M n) : Pc (fX12_isSeen fu d' L) (fun x g1 _ => WR cs d' n g1 ∧ ((x = 0 ∧ ¬ SQ d M (g1 32)) ∨ (¬ x = 0 ∧ SQ d M (g1 32)))) := by
  unfold fX12_isSeen
  refine pc_cb (wk_m hMD) (fun _ g L3 hw => ?_)
  have e := hw.2
  have e73 : (g 0 73).toInt = (M : Int) := by rw [e 0 (by omega)]; exact hM
  have e43 : g 43 = d 43 := by rw [e 43 (by omega), h43]
  unfold fX12_isSeen_l6
  refine pc_loop (fun v => ∃ m : Nat, v.1.toInt = (m : Int) ∧ m ≤ M ∧ v.2.1 = g ∧ ∀ k, k < m → g 32 (d 43 (2 * k)).toInt.toNat - d 2 (d 43 (2 * k)).toInt.toNat = d 43 (2 * k + 1)) (fun k6 hk v hv => ?_) ⟨0, rfl, by omega, rfl, fun k hk => absurd hk (Nat.not_lt_zero _)⟩
  obtain ⟨v1, g', L'⟩ := v
  obtain ⟨m, hm, mM, eg, ha⟩ := hv
  replace hm : v1.toInt = (m : Int) := hm
  replace eg : g' = g := eg
  subst eg
  show Pc (fX12_isSeen_s6 fu k6 v1 g' L') _
  unfold fX12_isSeen_s6
  have e2 : (2 * v1).toInt = 2 * (m : Int) := ic_mulc (m := 2) rfl hm (by omega) (by omega)
  have n2 : (2 * v1).toNatClampNeg = 2 * m := by rw [nc, e2]; omega
  have n3 : (2 * v1 + 1).toNatClampNeg = 2 * m + 1 := by rw [nc, ic_addc e2 (n := 1) rfl (by omega) (by omega)]; omega
  refine pc_ite (fun c => pc_ckb (pc_some ⟨hw, Or.inr ⟨by decide, ?_⟩⟩)) (fun c => ?_)
  · have c := icc_le e73 hm c
    have em : m = M := by omega
    rw [em] at ha; exact ha
  · have c := icc_nle e73 hm c
    have so := hs m (by omega)
    rw [n2, n3, e43]
    refine pc_ck (fun _ _ => pc_cb (late_m e (i := (d 43 (2 * m)).toInt.toNat) (by omega)) (fun x6 g7 L8 q => ?_))
    obtain ⟨rfl, q⟩ := q
    rw [h2] at q
    rw [e43]
    refine pc_ck (fun _ _ => pc_ite (fun c1 => hk _ ⟨m + 1, ?_, by omega, rfl, fun k hk => ?_⟩) (fun c1 => pc_ckb (pc_some ⟨hw, Or.inl ⟨rfl, fun hh => c1 ?_⟩⟩)))
    · show (v1 + 1).toInt = _
      rw [ic_addc hm (n := 1) rfl (by omega) (by omega)]; omega
    · by_cases q' : k = m
      · rw [q', ← q]; exact c1
      · exact ha k (by omega)
    · rw [q]; exact hh m (by omega)
theorem fits_x {cs : Nat → List Int} {n M fu : Nat} {g d : gT} {L : lT} (h : DC cs n g d) (hM : (g 6 10).toInt = (M : Int)) (hS : ∀ k, k < M → g 32 k = d 43 (2 * k) ∧ g 33 k = d 43 (2 * k + 1)) (hs : SO d M n) : Pc (fX10_findBeginners_9 fu g L) (fun _ g1 _ => TR g1 (ftS (SE cs n d M) (31 * n))) := by
  have hW := h.2.2.2.1
  have hn := h.1
  have n12 := h.1.2
  unfold fX10_findBeginners_9
  refine pc_st (fun g1 e1 => pc_st (fun g2 e2 => pc_st (fun g3 e3 => ?_)))
  have k3 : ∀ k, k ≠ 9 → g3 k = g k := fun k hk => by rw [e3, e2, e1]; exact funext fun _ => by rw [upd2_nk hk, upd2_nk hk, upd2_nk hk]
  have t3 : TR g3 (0, -1, -1) := by
    refine ⟨?_, ?_, ?_⟩
    · rw [e3, upd2_nj (by decide), e2, upd2_nj (by decide), e1, upd2_at]
    · rw [e3, upd2_nj (by decide), e2, upd2_at]
    · rw [e3, upd2_at]
  unfold fX10_findBeginners_9_l17
  refine pc_loop (fun v => ∃ l : Nat, v.1.toInt = (l : Int) ∧ l ≤ n ∧ (∀ k, k ≠ 9 → k ≠ 21 → (k < 43 ∨ 48 < k) → v.2.1 k = g k) ∧ TR v.2.1 (ftS (SE cs n d M) (31 * l))) (fun k17 hk v hv => ?_) ⟨0, rfl, by omega, fun k a _ _ => k3 k a, t3⟩
  obtain ⟨v1, g', L'⟩ := v
  obtain ⟨l, hl, ln, ek, ht⟩ := hv
  replace hl : v1.toInt = (l : Int) := hl
  replace ek : ∀ k, k ≠ 9 → k ≠ 21 → (k < 43 ∨ 48 < k) → g' k = g k := ek
  replace ht : TR g' (ftS (SE cs n d M) (31 * l)) := ht
  show Pc (fX10_findBeginners_9_s17 fu k17 v1 g' L') _
  unfold fX10_findBeginners_9_s17 fX10_lessonCount_9
  rw [ek 1 (by decide) (by decide) (by omega), cbs]
  refine pc_ite (fun c => pc_some ?_) (fun c => ?_)
  · have c := icc_le hn.1 hl c
    have em : l = n := by omega
    rw [em] at ht; exact ht
  have c := icc_nle hn.1 hl c
  have l' : l < n := by omega
  have el : v1.toNatClampNeg = l := by rw [nc, hl]; omega
  have hD' : DC cs n g' d := h.c3 (fun k a => ek k (by omega) (by omega) (by omega))
  refine pc_cb (rf_x hD' (f := 0) rfl (Nat.zero_le _)) (fun _ g10 L11 e10 => ?_)
  rw [el]
  refine pc_ck (fun _ _ => pc_lti (fun x13 e13 => ?_))
  have g25 : g' 25 = g 25 := ek 25 (by decide) (by decide) (by omega)
  have d13 : x13 = g 25 l := by rw [e13, e10.2.2 25 (by decide) (by omega), g25]
  have dl : g 25 l = d 12 l := (h.2.1 l l').2.1
  have k10 : ∀ k, k ≠ 9 → k ≠ 21 → (k < 43 ∨ 48 < k) → g10 k = g k := fun k a b c => (e10.2.2 k b c).trans (ek k a b c)
  unfold fX10_findBeginners_9_l45
  refine pc_loop (fun v => ∃ m : Nat, v.1.toInt = (m : Int) ∧ m ≤ 31 ∧ (∃ u : Int32, (∀ k, k ≠ 9 → k ≠ 21 → (k < 43 ∨ 48 < k) → v.2.1 k = upd2 g 25 l u k) ∧ DY cs (upd2 d 12 l u) n (v.2.1 43) (v.2.1 44) (v.2.1 45) (v.2.1 46)) ∧ TR v.2.1 (ftS (SE cs n d M) (31 * l + m))) (fun k45 hk2 v hv => ?_) ⟨0, rfl, by omega, ⟨d 12 l, fun k a b c => ?_, ?_⟩, ?_⟩
  rotate_left
  · show g10 k = _
    rw [← dl, upd2_s, k10 k a b c]
  · rw [upd2_s]
    exact fun i hi => e10.1 i (Nat.zero_le _) hi
  · exact ht.c (e10.2.2 9 (by decide) (by omega))
  obtain ⟨v3, g4, L4⟩ := v
  obtain ⟨m, hm, mm, ⟨u, ek4, hy⟩, ht4⟩ := hv
  replace hm : v3.toInt = (m : Int) := hm
  replace ek4 : ∀ k, k ≠ 9 → k ≠ 21 → (k < 43 ∨ 48 < k) → g4 k = upd2 g 25 l u k := ek4
  replace hy : DY cs (upd2 d 12 l u) n (g4 43) (g4 44) (g4 45) (g4 46) := hy
  replace ht4 : TR g4 (ftS (SE cs n d M) (31 * l + m)) := ht4
  show Pc (fX10_findBeginners_9_s45 fu k17 v1 x13 k45 v3 g4 L4) _
  unfold fX10_findBeginners_9_s45 fX10_findBeginners_9_p82
  have i30 : (30 : Int32).toInt = 30 := rfl
  rw [el]
  refine pc_ite (fun c => ?_) (fun c => ?_)
  · have c := icc_lt i30 hm c
    have em : m = 31 := by omega
    rw [em, show 31 * l + 31 = 31 * (l + 1) by omega] at ht4
    refine pc_ck (fun _ _ => pc_st (fun g15 e15 => hk _ ⟨l + 1, ?_, by omega, fun k a b c => ?_, ?_⟩))
    · show (v1 + 1).toInt = _
      rw [ic_addc hl (n := 1) rfl (by omega) (by omega)]; omega
    · show g15 k = g k
      rw [e15, put_c (ek4 k a b c), d13, upd2_s]
    · refine ht4.c ?_
      show g15 9 = g4 9
      rw [e15]; exact funext fun _ => upd2_nk (by decide)
  · have c := icc_nlt i30 hm c
    have v3i : Int32.ofInt (m : Int) = v3 := by rw [← hm]; exact io_i
    have ew : (v3 + 1).toInt = ((m + 1 : Nat) : Int) := by rw [ic_addc hm (n := 1) rfl (by omega) (by omega)]; omega
    refine pc_ck (fun _ _ => pc_st (fun g16 e16 => ?_))
    have f16 : ∀ k, k ≠ 9 → k ≠ 21 → (k < 43 ∨ 48 < k) → g16 k = upd2 g 25 l v3 k := fun k a b c => by
      rw [e16]; exact put_c (ek4 k a b c)
    have o16 : ∀ k, k ≠ 25 → g16 k = g4 k := fun k hk => by rw [e16]; exact funext fun _ => upd2_nk hk
    have hD : DC cs n g16 (upd2 d 12 l v3) := by
      have x := h.put (q := 0) (l := l) (v := v3) (by decide) (by omega) (fun e => absurd e (by decide))
      rw [show 12 * 0 + l = l by omega] at x
      exact x.c3 (fun k a => f16 k (by omega) (by omega) (by omega))
    have de : DE l (upd2 d 12 l u) (upd2 d 12 l v3) := ⟨fun k hk => by funext j; rw [upd2_nk hk, upd2_nk hk], fun x p a b _ => by rw [upd2_nj (by omega), upd2_nj (by omega)]⟩
    refine pc_cb (rf_x hD hl (by omega)) (fun _ g18 L19 e18 => ?_)
    have dy : DY cs (upd2 d 12 l v3) n (g18 43) (g18 44) (g18 45) (g18 46) := rf_dy (g := g16) de (wf_p hW) (wf_p hW) n12 (by rw [o16 43 (by decide), o16 44 (by decide), o16 45 (by decide), o16 46 (by decide)]; exact hy) e18
    have hD18 : DC cs n g18 (upd2 d 12 l v3) := hD.c e18.2.2
    have f18 : ∀ k, k ≠ 9 → k ≠ 21 → (k < 43 ∨ 48 < k) → g18 k = upd2 g 25 l v3 k := fun k a b c => by
      rw [e18.2.2 k b c, f16 k a b c]
    have q6 : g18 6 = g 6 := by rw [f18 6 (by decide) (by decide) (by omega)]; exact funext fun _ => upd2_nk (by decide)
    have q32 : g18 32 = g 32 := by rw [f18 32 (by decide) (by decide) (by omega)]; exact funext fun _ => upd2_nk (by decide)
    have q33 : g18 33 = g 33 := by rw [f18 33 (by decide) (by decide) (by omega)]; exact funext fun _ => upd2_nk (by decide)
    have t18 : TR g18 (ftS (SE cs n d M) (31 * l + m)) := ht4.c (by rw [e18.2.2 9 (by decide) (by omega), o16 9 (by decide)])
    have iff : SE cs n d M l m ↔ SQ d M (g18 44) := se_iff (bg := g18 43) (ru := g18 45) (by_ := g18 46) hW hs (by rw [v3i]; exact dy)
    refine pc_cb (seen_x hD18 (d := d) (funext fun _ => upd2_nk (by decide)) (by rw [q6]; exact hM) (fun k hk => by rw [q32, q33]; exact hS k hk) hs) (fun x21 g22 L23 e22 => ?_)
    obtain ⟨rfl, e22⟩ := e22
    rcases e22 with ⟨y0, y1⟩ | ⟨y0, y1⟩
    · rw [if_pos y0]
      refine hk2 _ ⟨m + 1, ew, by omega, ⟨v3, f18, dy⟩, ?_⟩
      show TR g22 (ftS (SE cs n d M) (31 * l + (m + 1)))
      rw [ftS_s (by omega), fsP_f (fun hh => y1 (iff.mp hh))]
      exact t18
    · rw [if_neg y0]
      refine pc_cb (addB_x t18 hl hm) (fun _ g27 L28 e27 => hk2 _ ⟨m + 1, ew, by omega, ⟨v3, fun k a b c => ?_, ?_⟩, ?_⟩)
      · show g27 k = _
        rw [e27.2 k a, f18 k a b c]
      · show DY cs _ n (g27 43) (g27 44) (g27 45) (g27 46)
        rw [e27.2 43 (by decide), e27.2 44 (by decide), e27.2 45 (by decide), e27.2 46 (by decide)]
        exact dy
      · show TR g27 (ftS (SE cs n d M) (31 * l + (m + 1)))
        rw [ftS_s (by omega), fsP_t (iff.mpr y1)]
        exact e27.1
/-- what the reference holds -/
def R4 (v2 v3 v4 v5 : Int32) (s : T3) : Prop := v2 = s.1 ∧ v3 = s.2.1 ∧ ((s.1 = 0 ∧ v3 = -1 ∧ v4 = -1 ∧ v5 = 1 ∧ s.2.2 = -1) ∨ (¬ s.1 = 0 ∧ ¬ v3 = -1 ∧ ¬ v4 = -1 ∧ ((v5 = 0 ∧ s.2.2 = -1) ∨ (v5 = 1 ∧ s.2.2 = v4))))
theorem fits_m {cs : Nat → List Int} {n M fu : Nat} {p1 : Int32} {d : gT} {L : lT} (hMD : MD cs n d) (hM : (d 0 73).toInt = (M : Int)) (M8 : M ≤ 8) (hs : SO d M n) : Pc (fX12_fits_l29 fu p1 0 (-1) (-1) 1 0 d L) (fun x g1 _ => g1 0 = d 0 ∧ x = if p1 = 0 then (ftS (SE cs n d M) (31 * n)).1 else if p1 = 1 then (ftS (SE cs n d M) (31 * n)).2.1 else (ftS (SE cs n d M) (31 * n)).2.2) := by
  have hW := hMD.2.1
  have n12 := hMD.1.2
  unfold fX12_fits_l29
  refine pc_loop (fun v => ∃ l : Nat, v.2.2.2.2.1.toInt = (l : Int) ∧ l ≤ n ∧ Em d v.2.2.2.2.2.1 ∧ R4 v.1 v.2.1 v.2.2.1 v.2.2.2.1 (ftS (SE cs n d M) (31 * l))) (fun k29 hk v hv => ?_) ⟨0, rfl, by omega, fun _ _ => rfl, rfl, rfl, Or.inl ⟨rfl, rfl, rfl, rfl, rfl⟩⟩
  obtain ⟨v2, v3, v4, v5, v6, g', L'⟩ := v
  obtain ⟨l, hl, ln, e, hr⟩ := hv
  replace hl : v6.toInt = (l : Int) := hl
  replace e : Em d g' := e
  replace hr : R4 v2 v3 v4 v5 (ftS (SE cs n d M) (31 * l)) := hr
  show Pc (fX12_fits_s29 fu p1 k29 v2 v3 v4 v5 v6 g' L') _
  unfold fX12_fits_s29 fX12_fits_p177
  have e01 : (g' 0 1).toInt = (n : Int) := by rw [e 0 (by omega)]; exact hMD.1.1
  have e0 : (0 + v6).toNatClampNeg = l := by rw [nc, ic_addc (m := 0) rfl hl (by omega) (by omega)]; omega
  refine pc_ite (fun c => ?_) (fun c => ?_)
  · have c := icc_le e01 hl c
    have em : l = n := by omega
    rw [em] at hr
    obtain ⟨r2, r3, r4⟩ := hr
    refine pc_ite (fun c1 => pc_some ⟨e 0 (by omega), ?_⟩) (fun c1 => pc_ite (fun c2 => pc_some ⟨e 0 (by omega), ?_⟩) (fun c2 => pc_ite (fun c3 => pc_some ⟨e 0 (by omega), ?_⟩) (fun c3 => pc_some ⟨e 0 (by omega), ?_⟩)))
    · rw [if_pos c1]; exact r2
    · rw [if_neg c1, if_pos c2]; exact r3
    · rw [if_neg c1, if_neg c2]
      rcases r4 with ⟨-, -, -, a, b⟩ | ⟨-, -, -, ⟨a, b⟩ | ⟨a, b⟩⟩
      · exact b.symm
      · exact b.symm
      · rw [a] at c3; exact absurd c3 (by decide)
    · rw [if_neg c1, if_neg c2]
      rcases r4 with ⟨-, -, a, -, b⟩ | ⟨-, -, -, ⟨a, b⟩ | ⟨a, b⟩⟩
      · rw [a, b]
      · exact absurd a c3
      · exact b.symm
  have c := icc_nle e01 hl c
  have l' : l < n := by omega
  have l6 : Int32.ofInt (l : Int) = v6 := by rw [← hl]; exact io_i
  rw [e0]
  refine pc_ck (fun _ _ => pc_lti (fun x11 e11 => ?_))
  have d11 : x11 = d 12 l := by rw [e11, e 12 (by omega)]
  unfold fX12_fits_l52
  refine pc_loop (fun v => ∃ m : Nat, v.2.2.2.2.1.toInt = (m : Int) ∧ m ≤ 31 ∧ (∃ u : Int32, Em (upd2 d 12 l u) v.2.2.2.2.2.1) ∧ R4 v.1 v.2.1 v.2.2.1 v.2.2.2.1 (ftS (SE cs n d M) (31 * l + m))) (fun k52 hk2 v hv => ?_) ⟨0, rfl, by omega, ⟨d 12 l, by rw [upd2_s]; exact e⟩, hr⟩
  obtain ⟨w2, w3, w4, w5, v8, g4, L4⟩ := v
  obtain ⟨m, hm, mm, ⟨u, e4⟩, hr⟩ := hv
  replace hm : v8.toInt = (m : Int) := hm
  replace e4 : Em (upd2 d 12 l u) g4 := e4
  replace hr : R4 w2 w3 w4 w5 (ftS (SE cs n d M) (31 * l + m)) := hr
  show Pc (fX12_fits_s52 fu k29 p1 v6 x11 k52 w2 w3 w4 w5 v8 g4 L4) _
  unfold fX12_fits_s52
  have i30 : (30 : Int32).toInt = 30 := rfl
  rw [e0]
  refine pc_ite (fun c => ?_) (fun c => ?_)
  · have c := icc_lt i30 hm c
    have em : m = 31 := by omega
    rw [em, show 31 * l + 31 = 31 * (l + 1) by omega] at hr
    refine pc_ck (fun _ _ => pc_st (fun g13 e13 => hk _ ⟨l + 1, ?_, by omega, ?_, hr⟩))
    · show (v6 + 1).toInt = _
      rw [ic_addc hl (n := 1) rfl (by omega) (by omega)]; omega
    · show Em d g13
      have x := e4.put (j := l) (v := x11)
      rw [upd2_2, d11, upd2_s, ← d11, ← e13] at x
      exact x
  · have c := icc_nlt i30 hm c
    have v8i : Int32.ofInt (m : Int) = v8 := by rw [← hm]; exact io_i
    have ew : (v8 + 1).toInt = ((m + 1 : Nat) : Int) := by rw [ic_addc hm (n := 1) rfl (by omega) (by omega)]; omega
    refine pc_ck (fun _ _ => pc_st (fun g14 e14 => ?_))
    have e14' : Em (upd2 d 12 l v8) g14 := by
      have x := e4.put (j := l) (v := v8)
      rw [upd2_2, ← e14] at x
      exact x
    have dk : ∀ k, k ≠ 12 → (k < 29 ∨ 35 < k) → g14 k = d k := fun k a b => by rw [e14' k b]; exact funext fun _ => upd2_nk a
    refine pc_cb (seen_m (cs := cs) (n := n) (M := M) (d := d) ((hMD.put (j := l) (v := v8)).e e14') (dk 2 (by decide) (by omega)) (dk 43 (by decide) (by omega)) (by rw [dk 0 (by decide) (by omega)]; exact hM) M8 hs) (fun x15 g16 L17 q => ?_)
    obtain ⟨⟨q1, q2⟩, q3⟩ := q
    have e16 : Em (upd2 d 12 l v8) g16 := fun k hk => (q2 k hk).trans (e14' k hk)
    have dy : DY cs (upd2 d 12 l v8) n (g16 31) (g16 32) (g16 33) (g16 34) := by
      rw [← DY_T, Td_e e14', DY_T] at q1
      exact q1
    have iff : SE cs n d M l m ↔ SQ d M (g16 32) := se_iff (bg := g16 31) (ru := g16 33) (by_ := g16 34) hW hs (by rw [v8i]; exact dy)
    rcases q3 with ⟨y0, y1⟩ | ⟨y0, y1⟩
    · rw [if_pos y0]
      unfold fX12_fits_p126
      refine hk2 _ ⟨m + 1, ew, by omega, ⟨v8, e16⟩, ?_⟩
      show R4 w2 w3 w4 w5 (ftS (SE cs n d M) (31 * l + (m + 1)))
      rw [ftS_s (by omega), fsP_f (fun hh => y1 (iff.mp hh))]
      exact hr
    · rw [if_neg y0]
      have sb := ftS_b (B := SE cs n d M) (31 * l + m) (by omega)
      have es : ftS (SE cs n d M) (31 * l + (m + 1)) = stF l m (ftS (SE cs n d M) (31 * l + m)) := by rw [ftS_s (by omega), fsP_t (iff.mpr y1)]
      generalize ftS (SE cs n d M) (31 * l + m) = s at *
      obtain ⟨s1, s2, s3⟩ := s
      obtain ⟨r2, r3, r4⟩ := hr
      replace r2 : w2 = s1 := r2
      replace r3 : w3 = s2 := r3
      replace r4 : (s1 = 0 ∧ w3 = -1 ∧ w4 = -1 ∧ w5 = 1 ∧ s3 = -1) ∨ (¬ s1 = 0 ∧ ¬ w3 = -1 ∧ ¬ w4 = -1 ∧ ((w5 = 0 ∧ s3 = -1) ∨ (w5 = 1 ∧ s3 = w4))) := r4
      replace sb : 0 ≤ s1.toInt ∧ s1.toInt ≤ ((31 * l + m : Nat) : Int) := sb
      have n1 : ¬ s1 + 1 = 0 := fun hh => by
        have : (s1 + 1).toInt = s1.toInt + 1 := ic_addc rfl (n := 1) rfl (by omega) (by omega)
        rw [hh] at this
        have z : (0 : Int32).toInt = 0 := rfl
        omega
      have n6 : ¬ v6 = -1 := fun hh => by
        rw [hh] at hl
        have z : (-1 : Int32).toInt = -1 := rfl
        omega
      have k1 : (100 * v6 + v8).toInt = 100 * (l : Int) + (m : Int) := ic_addc (ic_mulc (m := 100) rfl hl (by omega) (by omega)) hm (by omega) (by omega)
      have nf : ¬ 100 * v6 + v8 = -1 := fun hh => by
        rw [hh] at k1
        have z : (-1 : Int32).toInt = -1 := rfl
        omega
      have fin : ∀ (x3 one : Int32) (La : lT), R4 (w2 + 1) x3 v6 one (stF l m (s1, s2, s3)) → Pc (k52 (w2 + 1, x3, v6, one, (v8 + 1), g16, La)) (fun x g1 _ => g1 0 = d 0 ∧ x = if p1 = 0 then (ftS (SE cs n d M) (31 * n)).1 else if p1 = 1 then (ftS (SE cs n d M) (31 * n)).2.1 else (ftS (SE cs n d M) (31 * n)).2.2) := fun x3 one La hR => hk2 _ ⟨m + 1, ew, by omega, ⟨v8, e16⟩, by
        show R4 (w2 + 1) x3 v6 one (ftS (SE cs n d M) (31 * l + (m + 1)))
        rw [es]; exact hR⟩
      unfold stF at fin
      rw [l6, v8i] at fin
      unfold fX12_fits_p97 fX12_fits_p119 fX12_fits_p115 fX12_fits_p120 fX12_fits_p126
      rcases r4 with ⟨a, b, c1, d1, f1⟩ | ⟨a, b, c1, hh⟩
      · rw [if_pos b]
        refine pc_lti (fun x24 e24 => ?_)
        rw [if_neg (by rw [d1]; decide), if_pos c1]
        refine fin x24 1 _ ⟨by rw [r2], ?_, Or.inr ⟨n1, by rw [e24]; exact nf, n6, Or.inr ⟨rfl, ?_⟩⟩⟩
        · show x24 = if s1 = 0 then _ else _
          rw [if_pos a, e24]
        · show (if s1 = 0 then v6 else _) = v6
          rw [if_pos a]
      · rw [if_neg b]
        have t2 : ∀ z : Int32, (if s1 = 0 then z else s2) = w3 := fun z => by rw [if_neg a, r3]
        rcases hh with ⟨h5, h3⟩ | ⟨h5, h3⟩
        · rw [if_pos h5]
          refine fin w3 0 _ ⟨by rw [r2], (t2 _).symm, Or.inr ⟨n1, b, n6, Or.inl ⟨rfl, ?_⟩⟩⟩
          show (if s1 = 0 then v6 else if s3 = v6 then s3 else -1) = -1
          rw [if_neg a, h3, if_neg (fun q => n6 q.symm)]
        · rw [if_neg (by rw [h5]; decide), if_neg c1]
          refine pc_ite (fun c2 => fin w3 1 _ ⟨by rw [r2], (t2 _).symm, Or.inr ⟨n1, b, n6, Or.inr ⟨rfl, ?_⟩⟩⟩) (fun c2 => fin w3 0 _ ⟨by rw [r2], (t2 _).symm, Or.inr ⟨n1, b, n6, Or.inl ⟨rfl, ?_⟩⟩⟩)
          · show (if s1 = 0 then v6 else if s3 = v6 then s3 else -1) = v6
            rw [if_neg a, h3, if_pos c2]; exact c2
          · show (if s1 = 0 then v6 else if s3 = v6 then s3 else -1) = -1
            rw [if_neg a, h3, if_neg c2]
theorem cr_fits {fu : Nat} {p1 : Int32} {g gm g1 g2 : gT} {L Lm L1 L2 : lT} {rx : Except String Int32} {rm : Int32} (hS : CS g gm) (e1 : fX11_fits_0 fu p1 g L = some (rx, (g1, L1))) (e2 : fX12_fits fu p1 gm Lm = some (rm, (g2, L2))) : (rx = .ok rm ∧ g2 0 0 = 0) ∨ (rx = .error NSE ∧ g2 0 0 = 1) := by
  obtain ⟨h, hV⟩ := hS
  have hp := h.1.1
  have hI := hp.2.1
  obtain ⟨k1, k2, k3, k4, -⟩ := hp.2.2.2.2.2.2.1
  have r73 := hI 0 73 0 8 rfl
  have r1 := hI 0 1 0 12 rfl
  have a0 : upd2 gm 0 0 0 0 0 = 0 := upd2_at
  unfold fX11_fits_0 at e1
  unfold fX12_fits at e2
  unfold sti at e2
  have e2 : cb (fX12_isWhat fu p1 2 (upd2 gm 0 0 0) Lm) _ = some (rm, (g2, L2)) := e2
  have i3 : (3 : Int32).toInt = 3 := rfl
  have i2 : (2 : Int32).toInt = 2 := rfl
  by_cases c2 : 0 ≤ p1.toInt ∧ p1.toInt ≤ (2 : Int32).toInt
  rotate_left
  · rw [xwhat0 (fun hh => c2 (by omega))] at e1
    have e1 : some (.error NSE, (g, L)) = some (rx, (g1, L1)) := e1
    rw [what0 a0 c2] at e2
    have e2 : some ((0 : Int32), (upd2 (upd2 gm 0 0 0) 0 0 1, Lm)) = some (rm, (g2, L2)) := e2
    cases e1; cases e2
    exact Or.inr ⟨rfl, upd2_at⟩
  rw [xwhat1 c2.1 (by omega), cbxs] at e1
  rw [what1 a0 c2.1 c2.2, cbs, if_neg (by decide)] at e2
  obtain ⟨xa, ga, La, ea, e1⟩ := cb_some e1
  obtain ⟨cs, hX, hM, -⟩ := dc_all h
  obtain ⟨M, hMM⟩ : ∃ M : Nat, (gm 0 73).toInt = (M : Int) := ⟨(gm 0 73).toInt.toNat, by omega⟩
  have x43 : upd2 gm 0 0 0 43 = gm 43 := funext fun _ => upd2_nk (by decide)
  have hs : SO (upd2 gm 0 0 0) M (gm 0 1).toInt.toNat := fun k hk => by
    rw [x43]
    have := hV.2.1.2.2 k (by omega)
    omega
  have sc := h.1.2.2.1.2.2.2
  obtain ⟨t1, t2, t3⟩ := fits_x (hX.d (e0_u (x := 0))) (by rw [k4]; exact hMM) (fun k hk => by rw [x43]; exact sc k (by omega)) hs _ _ _ ea
  obtain ⟨z0, v⟩ := fits_m (hM.d (e0_u (x := 0))) hMM (by omega) hs _ _ _ e2
  have ne : ∀ {c : Int32} {m : Int}, c.toInt = m → p1.toInt ≠ m → ¬ p1 = c := fun a b e => b (by rw [e]; exact a)
  have z : g2 0 0 = 0 := by rw [z0]; exact a0
  rcases (by omega : p1.toInt = 0 ∨ p1.toInt = 1 ∨ p1.toInt = 2) with q | q | q
  · rw [if_pos q] at e1
    rw [if_pos (ic_eq.mpr q)] at v
    cases e1
    exact Or.inl ⟨by rw [v, t1], z⟩
  · rw [if_neg (by omega), if_pos q] at e1
    rw [if_neg (ne (m := 0) rfl (by omega)), if_pos (ic_eq.mpr q)] at v
    cases e1
    exact Or.inl ⟨by rw [v, t2], z⟩
  · rw [if_neg (by omega), if_neg (by omega)] at e1
    rw [if_neg (ne (m := 0) rfl (by omega)), if_neg (ne (m := 1) rfl (by omega))] at v
    cases e1
    exact Or.inl ⟨by rw [v, t3], z⟩
