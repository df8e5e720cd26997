section
/-! ===== one lesson runs over by more: far, reaches, slack ===== -/
/-- l runs over by m more, up to 180 -/
def mo (d : gT) (l : Nat) (m x : Int32) : gT := upd2 (upd2 d 12 l (d 12 l + m)) 0 61 x
theorem mo_k {d : gT} {l k : Nat} {m x : Int32} (h : k ≠ 12) (h0 : k ≠ 0) : mo d l m x k = d k := funext fun _ => by unfold mo; rw [upd2_nk h0, upd2_nk h]
theorem mo_0 {d : gT} {l j : Nat} {m x : Int32} (h : j ≠ 61) : mo d l m x 0 j = d 0 j := by unfold mo; rw [upd2_nj h, upd2_nk (by decide)]
theorem mo_61 {d : gT} {l : Nat} {m x : Int32} : mo d l m x 0 61 = x := by unfold mo; rw [upd2_at]
theorem mo_12 {d : gT} {l j : Nat} {m x : Int32} (h : j ≠ l) : mo d l m x 12 j = d 12 j := by unfold mo; rw [upd2_nk (by decide), upd2_nj h]
theorem mo_cmg {d : gT} {l : Nat} {m x : Int32} (l12 : l < 12) : cmg (mo d l m x) = cmg d := by
  funext en i k
  unfold cmg wf0 wy
  rw [mo_k (k := 9) (by decide) (by decide), mo_k (k := 4) (by decide) (by decide), mo_0 (j := 3) (by decide), mo_0 (j := 4) (by decide), mo_12 (show 24 + (d 9 (6 * i + k)).toInt.toNat ≠ l by omega), mo_12 (show 24 + i ≠ l by omega), mo_12 (show 12 + i ≠ l by omega)]
theorem mo_ld {cs : Nat → List Int} {d : gT} {l i : Nat} {m x : Int32} {bg en ru by_ : Nat → Int32} (l12 : l < 12) (il : i ≠ l) (h61 : d 0 61 ≠ Int32.ofInt (i : Int)) (hx : x ≠ Int32.ofInt (i : Int)) : LD cs (mo d l m x) bg en ru by_ i ↔ LD cs d bg en ru by_ i := by
  have ht : ∀ b, tl (mo d l m x) b i = tl d b i := fun b => by
    funext j
    match j with
    | 0 => show mo d l m x 12 i = d 12 i; rw [mo_12 il]
    | 1 => show b - mo d l m x 1 i = b - d 1 i; rw [mo_k (by decide) (by decide)]
    | 2 => rfl
    | 3 => show mo d l m x 12 (24 + i) = d 12 (24 + i); rw [mo_12 (by omega)]
    | 4 => show mo d l m x 4 i = d 4 i; rw [mo_k (by decide) (by decide)]
    | 5 => rfl
    | j + 6 => rfl
  have ho : ∀ b, ov cs (mo d l m x) i b = ov cs d i b := fun b => by
    rw [ov_e, ov_e]
    unfold gv
    rw [mo_0 (j := 60) (by decide), mo_61, mo_0 (j := 52) (by decide), mo_12 il, ht, if_neg hx, if_neg h61]
  unfold LD LB FC
  rw [mo_cmg l12, ho, mo_k (k := 1) (by decide) (by decide), mo_k (k := 2) (by decide) (by decide), mo_k (k := 3) (by decide) (by decide), mo_k (k := 5) (by decide) (by decide), mo_k (k := 6) (by decide) (by decide), mo_k (k := 8) (by decide) (by decide), mo_k (k := 9) (by decide) (by decide), mo_12 (show 36 + i ≠ l by omega)]
theorem DC.wide {cs : Nat → List Int} {n : Nat} {x : Int32} {g d : gT} (h : DC cs n g d) : DC cs n (upd2 g 8 9 x) (upd2 d 0 61 x) := by
  obtain ⟨a1, a3, a4, a5, a6, a7, a8, a9, a10⟩ := h
  have ek : ∀ k, k ≠ 8 → upd2 g 8 9 x k = g k := fun k hk => funext fun _ => upd2_nk hk
  have dk : ∀ k, k ≠ 0 → upd2 d 0 61 x k = d k := fun k hk => funext fun _ => upd2_nk hk
  have d0 : ∀ j, j ≠ 61 → upd2 d 0 61 x 0 j = d 0 j := fun j hj => upd2_nj hj
  refine ⟨by rw [ek 1 (by decide)]; exact a1, fun i hi => ⟨(a3 i hi).1.c (ek _ (by omega)) (ek _ (by omega)) (fun k x _ => dk k (by omega)), (a3 i hi).2.c (ek _ (by decide)) (ek _ (by decide)) (ek _ (by decide)) (ek _ (by decide)) (dk 12 (by decide))⟩, ?_, wf_e a5 (dk 5 (by decide)) (dk 6 (by decide)) (dk 8 (by decide)) (dk 9 (by decide)), ?_, ?_, ?_, ?_, ?_⟩
  · rw [ek 1 (by decide), d0 3 (by decide), d0 4 (by decide)]; exact a4
  · rw [dk 12 (by decide), dk 8 (by decide)]; exact a6
  · rw [ek 6 (by decide), ek 3 (by decide), d0 52 (by decide)]; exact a7
  · rw [ek 3 (by decide), ek 20 (by decide), ek 19 (by decide)]; exact a8
  · rw [upd2_nj (by decide), d0 60 (by decide)]; exact a9
  · rw [upd2_at, upd2_at]
theorem MD.wide {cs : Nat → List Int} {n : Nat} {x : Int32} {d : gT} (h : MD cs n d) : MD cs n (upd2 d 0 61 x) := by
  have dk : ∀ k, k ≠ 0 → upd2 d 0 61 x k = d k := fun k hk => funext fun _ => upd2_nk hk
  unfold MD WF
  rw [dk 5 (by decide), dk 6 (by decide), dk 8 (by decide), dk 9 (by decide), dk 10 (by decide), dk 11 (by decide), upd2_nj (by decide), upd2_nj (by decide)]
  exact h
/-- the ends of a day -/
def EN (cs : Nat → List Int) (n : Nat) (d : gT) (en : Nat → Int32) : Prop := ∃ bg ru by_, DY cs d n bg en ru by_
theorem EN.u {cs : Nat → List Int} {n : Nat} {d : gT} {en en' : Nat → Int32} (hW : WF n d) (h : EN cs n d en) (h' : EN cs n d en') : ∀ i, i < n → en i = en' i := by
  obtain ⟨b1, r1, y1, h1⟩ := h
  obtain ⟨b2, r2, y2, h2⟩ := h'
  exact fun i hi => (DY.u hW h1 h2 i hi).2.1
theorem EN.c {cs : Nat → List Int} {n : Nat} {d : gT} {en en' : Nat → Int32} (hW : WF n d) (h : EN cs n d en) (e : ∀ i, i < n → en i = en' i) : EN cs n d en' := by
  obtain ⟨b1, r1, y1, h1⟩ := h
  exact ⟨b1, r1, y1, fun i hi => (h1 i hi).c hW hi (fun j hj => e j (by omega)) rfl rfl rfl⟩
theorem EN.t {cs : Nat → List Int} {n : Nat} {d g : gT} {en : Nat → Int32} (e : ∀ k, k < 29 → g k = d k) (h : EN cs n g en) : EN cs n d en := by
  obtain ⟨b1, r1, y1, h1⟩ := h
  rw [← DY_T, Td_q e, DY_T] at h1
  exact ⟨b1, r1, y1, h1⟩
theorem wf_mo {n l : Nat} {d : gT} {m x : Int32} (hW : WF n d) : WF n (mo d l m x) := wf_e hW (mo_k (by decide) (by decide)) (mo_k (by decide) (by decide)) (mo_k (by decide) (by decide)) (mo_k (by decide) (by decide))
theorem oi_ne {i l : Nat} (h : i ≠ l) (hi : i < 12) (hl : l < 12) : Int32.ofInt (l : Int) ≠ Int32.ofInt (i : Int) := fun e => by
  have e := congrArg Int32.toInt e
  rw [Int32.toInt_ofInt_of_le (by omega) (by omega), Int32.toInt_ofInt_of_le (by omega) (by omega)] at e
  omega
theorem oi_n1 {i : Nat} (hi : i < 12) : (-1 : Int32) ≠ Int32.ofInt (i : Int) := fun e => by
  have e := congrArg Int32.toInt e
  rw [Int32.toInt_ofInt_of_le (by omega) (by omega)] at e
  have : (-1 : Int32).toInt = -1 := rfl
  omega
theorem keep_x {cs : Nat → List Int} {n fu : Nat} {g d : gT} {L : lT} (h : DC cs n g d) : Pc (fX10_keepEnds_9 fu g L) (fun _ g1 _ => (∀ k, k ≠ 49 → k ≠ 21 → (k < 43 ∨ 48 < k) → g1 k = g k) ∧ DY cs d n (g1 43) (g1 44) (g1 45) (g1 46) ∧ ∀ j, j < 12 → g1 49 j = g1 44 j) := by
  unfold fX10_keepEnds_9
  refine pc_cb (rf_x h (f := 0) rfl (Nat.zero_le _)) (fun _ g2 L3 e2 => pc_stA (fun g5 e5 => pc_some ⟨fun k a b c => ?_, ?_, fun j hj => ?_⟩))
  · rw [e5, updA_ne a, e2.2.2 k b c]
  · rw [e5, updA_ne (by decide), updA_ne (by decide), updA_ne (by decide), updA_ne (by decide)]
    exact fun i hi => e2.1 i (Nat.zero_le _) hi
  · rw [e5, updA_at, cpy_at, if_pos hj, updA_ne (by decide)]
/-- a lesson ahead stands as it was -/
theorem pre_c {cs : Nat → List Int} {n l : Nat} {d g g1 : gT} (hW : WF n d) (ln : l < n) (h : ∀ i, i < l → LD cs d (g 43) (g 44) (g 45) (g 46) i) (e : ∀ j, j < l → g1 43 j = g 43 j ∧ g1 44 j = g 44 j ∧ g1 45 j = g 45 j ∧ g1 46 j = g 46 j) : ∀ i, i < l → LD cs d (g1 43) (g1 44) (g1 45) (g1 46) i := fun i hi =>
  (h i hi).c hW (by omega) (fun j hj => (e j (by omega)).2.1.symm) (e i hi).1.symm (e i hi).2.2.1.symm (e i hi).2.2.2.symm
theorem more_x {cs : Nat → List Int} {n l fu : Nat} {p1 p2 : Int32} {g d : gT} {L : lT} (h : DC cs n g d) (h61 : d 0 61 = -1) (hl : p1.toInt = (l : Int)) (ln : l < n) (pre : ∀ i, i < l → LD cs d (g 43) (g 44) (g 45) (g 46) i) : Pc (fX10_runMore_9 fu p1 p2 g L) (fun _ g1 _ => (∀ k, k ≠ 21 → (k < 43 ∨ 48 < k) → g1 k = g k) ∧ (∀ i, i < l → LD cs d (g1 43) (g1 44) (g1 45) (g1 46) i) ∧ EN cs n (mo d l p2 p1) (g1 44)) := by
  have hW := h.2.2.2.1
  have n12 := h.1.2
  have l12' : l < 12 := by omega
  have el : p1.toNatClampNeg = l := by rw [nc, hl]; omega
  have pl : p1 = Int32.ofInt (l : Int) := by rw [← hl]; exact io_i.symm
  unfold fX10_runMore_9
  rw [el]
  refine pc_ck (fun _ _ => pc_lti (fun x1 e1 => pc_ck (fun _ _ => pc_st (fun g2 e2 => pc_st (fun g3 e3 => ?_)))))
  have d1 : g 25 l = d 12 l := (h.2.1 l ln).2.1
  have hD : DC cs n g3 (mo d l p2 p1) := by
    have x := (h.put (q := 0) (l := l) (v := d 12 l + p2) (by decide) l12' (fun e => absurd e (by decide))).wide (x := p1)
    rw [show 12 * 0 + l = l by omega] at x
    rw [e3, e2, e1, d1]; exact x
  have o3 : ∀ k, k ≠ 25 → k ≠ 8 → g3 k = g k := fun k a b => by rw [e3, e2]; exact funext fun _ => by rw [upd2_nk b, upd2_nk a]
  refine pc_cb (rf_x hD hl (by omega)) (fun _ g5 L6 e5 => pc_st (fun g8 e8 => pc_ck (fun _ _ => pc_st (fun g9 e9 => pc_some ?_))))
  obtain ⟨r1, r2, r3⟩ := e5
  have o9 : ∀ k, k ≠ 25 → k ≠ 8 → g9 k = g5 k := fun k a b => by rw [e9, e8]; exact funext fun _ => by rw [upd2_nk a, upd2_nk b]
  have q43 := o9 43 (by decide) (by decide)
  have q44 := o9 44 (by decide) (by decide)
  have q45 := o9 45 (by decide) (by decide)
  have q46 := o9 46 (by decide) (by decide)
  have pre5 : ∀ i, i < l → LD cs d (g5 43) (g5 44) (g5 45) (g5 46) i := pre_c hW ln pre (fun j hj => by
    have a := r2 j hj
    rw [o3 43 (by decide) (by decide), o3 44 (by decide) (by decide), o3 45 (by decide) (by decide), o3 46 (by decide) (by decide)] at a
    exact a)
  refine ⟨fun k a b => ?_, by rw [q43, q44, q45, q46]; exact pre5, ?_⟩
  · by_cases h25 : k = 25
    · subst h25
      funext j
      rw [e9]
      by_cases hj : j = l
      · rw [hj, upd2_at, e1]
      · rw [upd2_nj hj, e8, upd2_nk (by decide), r3 25 (by decide) (by omega), e3, upd2_nk (by decide), e2, upd2_nj hj]
    · by_cases h8 : k = 8
      · subst h8
        funext j
        rw [e9, upd2_nk (by decide), e8]
        by_cases hj : j = 9
        · rw [hj, upd2_at, h.2.2.2.2.2.2.2.2, h61]
        · rw [upd2_nj hj, r3 8 (by decide) (by omega), e3, upd2_nj hj, e2, upd2_nk (by decide)]
      · rw [o9 k h25 h8, r3 k a b, o3 k h25 h8]
  · rw [q44]
    refine ⟨g5 43, g5 45, g5 46, fun i hi => ?_⟩
    by_cases c : l ≤ i
    · exact r1 i c hi
    · have il : i ≠ l := by omega
      exact (mo_ld l12' il (by rw [h61]; exact oi_n1 (by omega)) (by rw [pl]; exact oi_ne il (by omega) l12')).mpr (pre5 i (by omega))
/-- minutes by which ends are later, all in all -/
def fLM (en sv : Nat → Int32) (i : Nat) (a : Int32) : Int32 := a + (en i - sv i)
def fLt (d : gT) (en : Nat → Int32) (i : Nat) (a : Int32) : Int32 := a + (en i - d 2 i)
theorem flm_e {d : gT} {en sv : Nat → Int32} : ∀ n : Nat, fo (fLM en sv) n = fo (fLt d en) n - fo (fLt d sv) n := by
  intro n
  induction n with
  | zero => show (0 : Int32) = 0 - 0; rw [Int32.sub_self]
  | succ n ih =>
    show fo (fLM en sv) n + (en n - sv n) = (fo (fLt d en) n + (en n - d 2 n)) - (fo (fLt d sv) n + (sv n - d 2 n))
    rw [ih]
    generalize fo (fLt d en) n = y
    generalize fo (fLt d sv) n = z
    generalize en n = e
    generalize sv n = s
    generalize d 2 n = t
    refine ((Int32.sub_eq_iff_eq_add).mpr ?_).symm
    have : y - z + (e - s) + (z + (s - t)) = (y + (e - t)) + ((-z + z) + (-s + s)) := by
      rw [Int32.sub_eq_add_neg, Int32.sub_eq_add_neg, Int32.sub_eq_add_neg, Int32.sub_eq_add_neg]
      ac_rfl
    rw [this, Int32.add_left_neg, Int32.add_left_neg, Int32.add_zero, Int32.add_zero]
theorem bits_x {cs : Nat → List Int} {n fu : Nat} {g d : gT} {L : lT} (h : DC cs n g d) : Pc (fX10_laterBits_9 fu g L) (fun x g1 _ => g1 = g ∧ x = fo (fLB (g 44) (g 49)) n) := by
  have hn := h.1
  have n12 := h.1.2
  unfold fX10_laterBits_9 fX10_laterBits_9_l4
  refine pc_loop (fun v => ∃ m : Nat, v.2.1.toInt = (m : Int) ∧ m ≤ n ∧ v.1 = fo (fLB (g 44) (g 49)) m ∧ v.2.2.1 = g) (fun k4 hk v hv => ?_) ⟨0, rfl, by omega, rfl, rfl⟩
  obtain ⟨v1, v2, g', L'⟩ := v
  obtain ⟨m, hm, mn, e1, eg⟩ := hv
  replace hm : v2.toInt = (m : Int) := hm
  replace e1 : v1 = fo (fLB (g 44) (g 49)) m := e1
  replace eg : g' = g := eg
  subst eg
  show Pc (fX10_laterBits_9_s4 fu k4 v1 v2 g' L') _
  unfold fX10_laterBits_9_s4 fX10_laterBits_9_p36 fX10_lessonCount_9
  rw [cbs]
  have ei : v2.toNatClampNeg = m := by rw [nc, hm]; omega
  have vi : v2 = Int32.ofInt (m : Int) := by rw [← hm]; exact io_i.symm
  refine pc_ite (fun c => pc_some ⟨rfl, ?_⟩) (fun c => ?_)
  · have c := icc_le hn.1 hm c
    rw [e1, show m = n by omega]
  have c := icc_nle hn.1 hm c
  have ew : (v2 + 1).toInt = ((m + 1 : Nat) : Int) := by rw [ic_addc hm (n := 1) rfl (by omega) (by omega)]; omega
  rw [ei]
  refine pc_ck (fun _ _ => pc_ck (fun _ _ => pc_ite (fun c1 => hk _ ⟨m + 1, ew, by omega, ?_, rfl⟩) (fun c1 => pc_lti (fun x7 e7 => hk _ ⟨m + 1, ew, by omega, ?_, rfl⟩))))
  · show v1 = fLB (g' 44) (g' 49) m (fo (fLB (g' 44) (g' 49)) m)
    unfold fLB
    rw [if_pos c1]; exact e1
  · show x7 = fLB (g' 44) (g' 49) m (fo (fLB (g' 44) (g' 49)) m)
    rw [e7, e1, vi]
    show _ = if g' 44 m ≤ g' 49 m then _ else _
    rw [if_neg c1]
theorem mins_x {cs : Nat → List Int} {n fu : Nat} {g d : gT} {L : lT} (h : DC cs n g d) : Pc (fX10_laterMinutes_9 fu g L) (fun x g1 _ => g1 = g ∧ x = fo (fLM (g 44) (g 49)) n) := by
  have hn := h.1
  have n12 := h.1.2
  unfold fX10_laterMinutes_9 fX10_laterMinutes_9_l4
  refine pc_loop (fun v => ∃ m : Nat, v.2.1.toInt = (m : Int) ∧ m ≤ n ∧ v.1 = fo (fLM (g 44) (g 49)) m ∧ v.2.2.1 = g) (fun k4 hk v hv => ?_) ⟨0, rfl, by omega, rfl, rfl⟩
  obtain ⟨v1, v2, g', L'⟩ := v
  obtain ⟨m, hm, mn, e1, eg⟩ := hv
  replace hm : v2.toInt = (m : Int) := hm
  replace e1 : v1 = fo (fLM (g 44) (g 49)) m := e1
  replace eg : g' = g := eg
  subst eg
  show Pc (fX10_laterMinutes_9_s4 fu k4 v1 v2 g' L') _
  unfold fX10_laterMinutes_9_s4 fX10_lessonCount_9
  rw [cbs]
  have ei : v2.toNatClampNeg = m := by rw [nc, hm]; omega
  refine pc_ite (fun c => pc_some ⟨rfl, ?_⟩) (fun c => ?_)
  · have c := icc_le hn.1 hm c
    rw [e1, show m = n by omega]
  have c := icc_nle hn.1 hm c
  rw [ei]
  refine pc_ck (fun _ _ => pc_ck (fun _ _ => pc_lti (fun x6 e6 => hk _ ⟨m + 1, ?_, by omega, ?_, rfl⟩)))
  · show (v2 + 1).toInt = _
    rw [ic_addc hm (n := 1) rfl (by omega) (by omega)]; omega
  · show x6 = fLM (g' 44) (g' 49) m (fo (fLM (g' 44) (g' 49)) m)
    rw [e6, e1]; rfl
/-! the reference -/
theorem cp37 {fu : Nat} {g : gT} {L : lT} : Pc (fX12_copies_32_37 fu g L) (fun _ g1 _ => (∀ j, j < 12 → g1 37 j = g 32 j) ∧ ∀ k, k ≠ 37 → g1 k = g k) := by
  unfold fX12_copies_32_37 fX12_copies_32_37_l2
  refine pc_loop (fun v => ∃ m : Nat, v.1.toInt = (m : Int) ∧ m ≤ 12 ∧ (∀ j, j < m → v.2.1 37 j = g 32 j) ∧ ∀ k, k ≠ 37 → v.2.1 k = g k) (fun k2 hk v hv => ?_) ⟨0, rfl, by omega, fun j hj => absurd hj (Nat.not_lt_zero _), fun _ _ => rfl⟩
  obtain ⟨v3, g', L'⟩ := v
  obtain ⟨m, hm, mn, e1, ek⟩ := hv
  replace hm : v3.toInt = (m : Int) := hm
  replace e1 : ∀ j, j < m → g' 37 j = g 32 j := e1
  replace ek : ∀ k, k ≠ 37 → g' k = g k := ek
  show Pc (fX12_copies_32_37_s2 fu k2 v3 g' L') _
  unfold fX12_copies_32_37_s2
  have ei : v3.toNatClampNeg = m := by rw [nc, hm]; omega
  refine pc_ite (fun c => pc_some ⟨fun j hj => e1 j ?_, ek⟩) (fun c => ?_)
  · have c := icc_le (m := 12) rfl hm c
    omega
  have c := icc_nle (m := 12) rfl hm c
  rw [ei, ek 32 (by decide)]
  refine pc_ck (fun _ _ => pc_ck (fun _ _ => pc_st (fun g2 e2 => hk _ ⟨m + 1, ?_, by omega, fun j hj => ?_, fun k h => ?_⟩)))
  · show (v3 + 1).toInt = _
    rw [ic_addc hm (n := 1) rfl (by omega) (by omega)]; omega
  · show g2 37 j = _
    by_cases q : j = m
    · rw [q, e2, upd2_at]
    · rw [e2, upd2_nj q]; exact e1 j (by omega)
  · show g2 k = g k
    rw [e2, ← ek k h]; exact funext fun _ => upd2_nk h
theorem lates_m {n fu : Nat} {g : gT} {L : lT} (hn : (g 0 1).toInt = (n : Int)) (n12 : n ≤ 12) : Pc (fX12_lates fu g L) (fun x g1 _ => g1 = g ∧ x = fo (fLt g (g 32)) n) := by
  unfold fX12_lates fX12_lates_l4
  refine pc_loop (fun v => ∃ m : Nat, v.2.1.toInt = (m : Int) ∧ m ≤ n ∧ v.1 = fo (fLt g (g 32)) m ∧ v.2.2.1 = g) (fun k4 hk v hv => ?_) ⟨0, rfl, by omega, rfl, rfl⟩
  obtain ⟨v1, v2, g', L'⟩ := v
  obtain ⟨m, hm, mn, e1, eg⟩ := hv
  replace hm : v2.toInt = (m : Int) := hm
  replace e1 : v1 = fo (fLt g (g 32)) m := e1
  replace eg : g' = g := eg
  subst eg
  show Pc (fX12_lates_s4 fu k4 v1 v2 g' L') _
  unfold fX12_lates_s4
  refine pc_ite (fun c => pc_some ⟨rfl, ?_⟩) (fun c => ?_)
  · have c := icc_le hn hm c
    rw [e1, show m = n by omega]
  have c := icc_nle hn hm c
  refine pc_cb (late_m (d := g') (fun _ _ => rfl) hm) (fun x2 g3 L4 e => ?_)
  obtain ⟨rfl, e⟩ := e
  refine pc_lti (fun x6 e6 => hk _ ⟨m + 1, ?_, by omega, ?_, rfl⟩)
  · show (v2 + 1).toInt = _
    rw [ic_addc hm (n := 1) rfl (by omega) (by omega)]; omega
  · show x6 = fLt g3 (g3 32) m (fo (fLt g3 (g3 32)) m)
    rw [e6, e, e1]; rfl
theorem fLt_c {d g : gT} {en : Nat → Int32} (e : g 2 = d 2) : fLt g en = fLt d en := by
  funext i a
  unfold fLt
  rw [e]
theorem later_m {n fu : Nat} {g : gT} {L : lT} (hn : (g 0 1).toInt = (n : Int)) (n12 : n ≤ 12) : Pc (fX12_later fu g L) (fun x g1 _ => g1 = g ∧ x = fo (fLB (g 32) (g 37)) n) := by
  unfold fX12_later fX12_later_l4
  refine pc_loop (fun v => ∃ m : Nat, v.2.1.toInt = (m : Int) ∧ m ≤ n ∧ v.1 = fo (fLB (g 32) (g 37)) m ∧ v.2.2.1 = g) (fun k4 hk v hv => ?_) ⟨0, rfl, by omega, rfl, rfl⟩
  obtain ⟨v1, v2, g', L'⟩ := v
  obtain ⟨m, hm, mn, e1, eg⟩ := hv
  replace hm : v2.toInt = (m : Int) := hm
  replace e1 : v1 = fo (fLB (g 32) (g 37)) m := e1
  replace eg : g' = g := eg
  subst eg
  show Pc (fX12_later_s4 fu k4 v1 v2 g' L') _
  unfold fX12_later_s4 fX12_later_p35
  have ei : v2.toNatClampNeg = m := by rw [nc, hm]; omega
  have vi : v2 = Int32.ofInt (m : Int) := by rw [← hm]; exact io_i.symm
  refine pc_ite (fun c => pc_some ⟨rfl, ?_⟩) (fun c => ?_)
  · have c := icc_le hn hm c
    rw [e1, show m = n by omega]
  have c := icc_nle hn hm c
  have ew : (v2 + 1).toInt = ((m + 1 : Nat) : Int) := by rw [ic_addc hm (n := 1) rfl (by omega) (by omega)]; omega
  rw [ei]
  refine pc_ck (fun _ _ => pc_ck (fun _ _ => pc_ite (fun c1 => pc_lti (fun x2 e2 => hk _ ⟨m + 1, ew, by omega, ?_, rfl⟩)) (fun c1 => pc_lti (fun x2 e2 => hk _ ⟨m + 1, ew, by omega, ?_, rfl⟩))))
  · show x2 = if g' 32 m ≤ g' 37 m then _ else _
    rw [if_pos c1, e2, Int32.or_zero]; exact e1
  · show x2 = if g' 32 m ≤ g' 37 m then _ else _
    rw [if_neg c1, e2, e1, vi]
theorem moreBy_m {cs : Nat → List Int} {n l fu : Nat} {p1 p2 : Int32} {g d : gT} {L : lT} (hM : MD cs n d) (e : ∀ k, k < 29 → g k = d k) (h61 : d 0 61 = -1) (hl : p1.toInt = (l : Int)) (l12' : l < 12) : Pc (fX12_moreBy fu p1 p2 g L) (fun x g1 _ => (∀ k, k < 29 → g1 k = d k) ∧ EN cs n d (g1 37) ∧ EN cs n (mo d l p2 p1) (g1 32) ∧ x = fo (fLM (g1 32) (g1 37)) n) := by
  have hW := hM.2.1
  have n12 := hM.1.2
  have e0 : (0 + p1).toNatClampNeg = l := by rw [nc, ic_addc (m := 0) rfl hl (by omega) (by omega)]; omega
  unfold fX12_moreBy
  rw [e0]
  refine pc_cb (wk_m (hM.t e)) (fun _ g2 L3 e2 => pc_cb cp37 (fun _ g6 L7 e6 => ?_))
  have k2 : ∀ k, k < 29 → g2 k = d k := fun k hk => (e2.2 k (by omega)).trans (e k hk)
  have k6 : ∀ k, k < 29 → g6 k = d k := fun k hk => (e6.2 k (by omega)).trans (k2 k hk)
  have n1 : EN cs n d (g6 37) := EN.c hW (EN.t e ⟨_, _, _, e2.1⟩) (fun i hi => (e6.1 i (by omega)).symm)
  refine pc_cb (lates_m (n := n) (by rw [k6 0 (by omega)]; exact hM.1.1) n12) (fun x9 g10 L11 q9 => ?_)
  obtain ⟨rfl, q9⟩ := q9
  rw [e6.2 32 (by decide), fLt_c (k6 2 (by omega))] at q9
  have q9' : x9 = fo (fLt d (g10 37)) n := by
    rw [q9]
    exact fo_c (fun i hi a => by unfold fLt; rw [e6.1 i (by omega)])
  refine pc_ck (fun _ _ => pc_ck (fun _ _ => pc_st (fun g13 e13 => pc_st (fun g14 e14 => ?_))))
  have k14 : ∀ k, k < 29 → g14 k = mo d l p2 p1 k := fun k hk => by
    rw [e14, e13, k6 12 (by omega)]
    by_cases h0 : k = 0
    · subst h0
      funext j
      by_cases hj : j = 61
      · rw [hj, upd2_at, mo_61]
      · rw [upd2_nj hj, upd2_nk (by decide), k6 0 (by omega), mo_0 hj]
    · by_cases h12 : k = 12
      · subst h12
        funext j
        rw [upd2_nk (by decide)]
        by_cases hj : j = l
        · rw [hj, upd2_at]
          show _ = upd2 (upd2 d 12 l (d 12 l + p2)) 0 61 p1 12 l
          rw [upd2_nk (by decide), upd2_at]
        · rw [upd2_nj hj, k6 12 (by omega), mo_12 hj]
      · funext j
        rw [upd2_nk h0, upd2_nk h12, k6 k hk, mo_k h12 h0]
  have hM14 : MD cs n g14 := MD.t (d := mo d l p2 p1) (MD.wide (MD.put hM)) k14
  refine pc_cb (wk_m hM14) (fun _ g16 L17 e16 => pc_st (fun g19 e19 => pc_ck (fun _ _ => pc_ck (fun _ _ => pc_st (fun g20 e20 => ?_)))))
  have n2 : EN cs n (mo d l p2 p1) (g16 32) := EN.t k14 ⟨_, _, _, e16.1⟩
  have a12 : g19 12 l = d 12 l + p2 := by
    rw [e19, upd2_nk (by decide), e16.2 12 (by omega), k14 12 (by omega)]
    show upd2 (upd2 d 12 l (d 12 l + p2)) 0 61 p1 12 l = _
    rw [upd2_nk (by decide), upd2_at]
  have k20 : ∀ k, k < 29 → g20 k = d k := fun k hk => by
    by_cases h12 : k = 12
    · subst h12
      funext j
      by_cases hj : j = l
      · rw [hj, e20, upd2_at, a12, Int32.add_sub_cancel]
      · rw [e20, upd2_nj hj, e19, upd2_nk (by decide), e16.2 12 (by omega), k14 12 (by omega), mo_12 hj]
    · by_cases h0 : k = 0
      · subst h0
        funext j
        rw [e20, upd2_nk (by decide), e19]
        by_cases hj : j = 61
        · rw [hj, upd2_at, h61]
        · rw [upd2_nj hj, e16.2 0 (by omega), k14 0 (by omega), mo_0 hj]
      · funext j
        rw [e20, upd2_nk h12, e19, upd2_nk h0, e16.2 k (by omega), k14 k hk, mo_k h12 h0]
  have o20 : ∀ k, k ≠ 12 → k ≠ 0 → g20 k = g16 k := fun k a b => by rw [e20, e19]; exact funext fun _ => by rw [upd2_nk a, upd2_nk b]
  have z37 : g20 37 = g10 37 := by
    rw [o20 37 (by decide) (by decide), e16.2 37 (by omega), e14, e13]
    exact funext fun _ => by rw [upd2_nk (by decide), upd2_nk (by decide)]
  refine pc_cb (lates_m (n := n) (by rw [k20 0 (by omega)]; exact hM.1.1) n12) (fun x21 g22 L23 q21 => ?_)
  obtain ⟨rfl, q21⟩ := q21
  rw [fLt_c (k20 2 (by omega))] at q21
  refine pc_some ⟨k20, by rw [z37]; exact n1, by rw [o20 32 (by decide) (by decide)]; exact n2, ?_⟩
  rw [flm_e (d := d), q21, q9', z37]
/-! the answers -/
def UP (Z : Nat → Prop) (x : Int32) : Prop := (x = -1 ∧ ∀ m : Nat, 1 ≤ m → m ≤ 120 → ¬ Z m) ∨ ∃ m : Nat, (1 ≤ m ∧ m ≤ 120) ∧ x.toInt = (m : Int) ∧ Z m ∧ ∀ m', 1 ≤ m' → m' < m → ¬ Z m'
theorem UP.u {Z : Nat → Prop} {x y : Int32} (h : UP Z x) (h' : UP Z y) : x = y := by
  rcases h with ⟨a, b⟩ | ⟨m, ⟨m1, m2⟩, a, b, c⟩
  · rcases h' with ⟨a', -⟩ | ⟨m', ⟨n1, n2⟩, -, b', -⟩
    · rw [a, a']
    · exact absurd b' (b m' n1 n2)
  · rcases h' with ⟨-, b'⟩ | ⟨m', ⟨n1, n2⟩, a', b', c'⟩
    · exact absurd b (b' m m1 m2)
    · rcases (by omega : m < m' ∨ m = m' ∨ m' < m) with e | e | e
      · exact absurd b (c' m m1 e)
      · exact ic_eq.mpr (by omega)
      · exact absurd b' (c m' n1 e)
def DN (Z : Nat → Prop) (x : Int32) : Prop := (x = 0 ∧ ∀ m : Nat, 1 ≤ m → m ≤ 120 → ¬ Z m) ∨ ∃ m : Nat, (1 ≤ m ∧ m ≤ 120) ∧ x.toInt = (m : Int) ∧ Z m ∧ ∀ m', m < m' → m' ≤ 120 → ¬ Z m'
theorem DN.u {Z : Nat → Prop} {x y : Int32} (h : DN Z x) (h' : DN Z y) : x = y := by
  rcases h with ⟨a, b⟩ | ⟨m, ⟨m1, m2⟩, a, b, c⟩
  · rcases h' with ⟨a', -⟩ | ⟨m', ⟨n1, n2⟩, -, b', -⟩
    · rw [a, a']
    · exact absurd b' (b m' n1 n2)
  · rcases h' with ⟨-, b'⟩ | ⟨m', ⟨n1, n2⟩, a', b', c'⟩
    · exact absurd b (b' m m1 m2)
    · rcases (by omega : m < m' ∨ m = m' ∨ m' < m) with e | e | e
      · exact absurd b' (c m' e n2)
      · exact ic_eq.mpr (by omega)
      · exact absurd b (c' m e m2)
/-- m minutes more of l make o later -/
def RZ (cs : Nat → List Int) (n : Nat) (d : gT) (l o : Nat) (p1 : Int32) (m : Nat) : Prop := ∃ sv en, EN cs n d sv ∧ EN cs n (mo d l (Int32.ofInt (m : Int)) p1) en ∧ ¬ en o ≤ sv o
/-- m minutes more of l make none but l later -/
def DZ (cs : Nat → List Int) (n : Nat) (d : gT) (l : Nat) (p1 : Int32) (m : Nat) : Prop := ∃ sv en, EN cs n d sv ∧ EN cs n (mo d l (Int32.ofInt (m : Int)) p1) en ∧ (fo (fLB en sv) n &&& (((1 : Int32) <<< (p1 &&& 31)) ^^^ -1)) = 0
theorem rz_iff {cs : Nat → List Int} {n l o m : Nat} {d : gT} {p1 : Int32} {sv en : Nat → Int32} (hW : WF n d) (on : o < n) (h1 : EN cs n d sv) (h2 : EN cs n (mo d l (Int32.ofInt (m : Int)) p1) en) : RZ cs n d l o p1 m ↔ ¬ en o ≤ sv o := by
  constructor
  · intro ⟨sv', en', a, b, c⟩
    rw [EN.u hW h1 a o on, EN.u (wf_mo hW) h2 b o on]; exact c
  · intro c; exact ⟨_, _, h1, h2, c⟩
theorem flb_u {cs : Nat → List Int} {n : Nat} {d d' : gT} {sv en sv' en' : Nat → Int32} (hW : WF n d) (hW' : WF n d') (h1 : EN cs n d sv) (h2 : EN cs n d' en) (h1' : EN cs n d sv') (h2' : EN cs n d' en') : fo (fLB en sv) n = fo (fLB en' sv') n :=
  fo_c (fun i hi a => by unfold fLB; rw [EN.u hW h1 h1' i hi, EN.u hW' h2 h2' i hi])
theorem dz_iff {cs : Nat → List Int} {n l m : Nat} {d : gT} {p1 : Int32} {sv en : Nat → Int32} (hW : WF n d) (h1 : EN cs n d sv) (h2 : EN cs n (mo d l (Int32.ofInt (m : Int)) p1) en) : DZ cs n d l p1 m ↔ (fo (fLB en sv) n &&& (((1 : Int32) <<< (p1 &&& 31)) ^^^ -1)) = 0 := by
  constructor
  · intro ⟨sv', en', a, b, c⟩
    rw [flb_u hW (wf_mo hW) h1 h2 a b]; exact c
  · intro c; exact ⟨_, _, h1, h2, c⟩
/-- what holds while trials of more minutes go on -/
def TM (cs : Nat → List Int) (n l : Nat) (d g g' : gT) : Prop := (∀ k, k ≠ 49 → k ≠ 21 → (k < 43 ∨ 48 < k) → g' k = g k) ∧ (∀ i, i < l → LD cs d (g' 43) (g' 44) (g' 45) (g' 46) i) ∧ EN cs n d (g' 49)
theorem tm_0 {cs : Nat → List Int} {n l fu : Nat} {g d : gT} {L : lT} (h : DC cs n g d) (ln : l < n) : Pc (fX10_keepEnds_9 fu g L) (fun _ g1 _ => TM cs n l d g g1) := by
  refine pc_mo (keep_x h) (fun _ g1 _ e => ⟨e.1, fun i hi => e.2.1 i (by omega), ?_⟩)
  have n12 := h.1.2
  exact EN.c h.2.2.2.1 ⟨_, _, _, e.2.1⟩ (fun i hi => (e.2.2 i (by omega)).symm)
theorem tm_c {cs : Nat → List Int} {n l : Nat} {d g g' : gT} (h : DC cs n g d) (t : TM cs n l d g g') : DC cs n g' d := h.c3 (fun k a => t.1 k (by omega) (by omega) (by omega))
theorem tm_s {cs : Nat → List Int} {n l fu : Nat} {p1 p2 : Int32} {g g' d : gT} {L : lT} (h : DC cs n g d) (h61 : d 0 61 = -1) (hl : p1.toInt = (l : Int)) (ln : l < n) (t : TM cs n l d g g') : Pc (fX10_runMore_9 fu p1 p2 g' L) (fun _ g1 _ => TM cs n l d g g1 ∧ EN cs n (mo d l p2 p1) (g1 44)) := by
  refine pc_mo (more_x (tm_c h t) h61 hl ln t.2.1) (fun _ g1 _ e => ⟨⟨fun k a b c => (e.1 k b c).trans (t.1 k a b c), e.2.1, ?_⟩, e.2.2⟩)
  rw [e.1 49 (by decide) (by omega)]; exact t.2.2
theorem reach_x {cs : Nat → List Int} {n l o fu : Nat} {p1 p2 : Int32} {g d : gT} {L : lT} (h : DC cs n g d) (h61 : d 0 61 = -1) (hl : p1.toInt = (l : Int)) (ln : l < n) (ho : p2.toInt = (o : Int)) (on : o < n) : Pc (fX10_leastThatReaches_9 fu p1 p2 g L) (fun x _ _ => UP (RZ cs n d l o p1) x) := by
  have hW := h.2.2.2.1
  have n12 := h.1.2
  have eo : p2.toNatClampNeg = o := by rw [nc, ho]; omega
  unfold fX10_leastThatReaches_9
  refine pc_cb (tm_0 h ln) (fun _ g2 L3 t2 => ?_)
  unfold fX10_leastThatReaches_9_l6
  refine pc_loop (fun v => ∃ m : Nat, v.1.toInt = (m : Int) ∧ 1 ≤ m ∧ m ≤ 121 ∧ TM cs n l d g v.2.1 ∧ ∀ m', 1 ≤ m' → m' < m → ¬ RZ cs n d l o p1 m') (fun k6 hk v hv => ?_) ⟨1, rfl, by omega, by omega, t2, fun m' a b => by omega⟩
  obtain ⟨v3, g', L'⟩ := v
  obtain ⟨m, hm, m1, m2, t, hz⟩ := hv
  replace hm : v3.toInt = (m : Int) := hm
  replace t : TM cs n l d g g' := t
  show Pc (fX10_leastThatReaches_9_s6 fu p1 p2 k6 v3 g' L') _
  unfold fX10_leastThatReaches_9_s6
  have i120 : (120 : Int32).toInt = 120 := rfl
  refine pc_ite (fun c => pc_some (Or.inl ⟨rfl, fun m' a b => hz m' a ?_⟩)) (fun c => ?_)
  · have c := icc_lt i120 hm c
    omega
  have c := icc_nlt i120 hm c
  have vm : Int32.ofInt (m : Int) = v3 := by rw [← hm]; exact io_i
  refine pc_cb (tm_s h h61 hl ln t) (fun _ g7 L8 e7 => ?_)
  obtain ⟨t7, n7⟩ := e7
  have iff : RZ cs n d l o p1 m ↔ ¬ g7 44 o ≤ g7 49 o := rz_iff hW on t7.2.2 (by rw [vm]; exact n7)
  rw [eo]
  refine pc_ck (fun _ _ => pc_ck (fun _ _ => pc_ite (fun c1 => hk _ ⟨m + 1, ?_, by omega, by omega, t7, fun m' a b => ?_⟩) (fun c1 => pc_some (Or.inr ⟨m, by omega, hm, iff.mpr c1, hz⟩))))
  · show (v3 + 1).toInt = _
    rw [ic_addc hm (n := 1) rfl (by omega) (by omega)]; omega
  · by_cases q : m' = m
    · rw [q]; exact fun hh => iff.mp hh c1
    · exact hz m' a (by omega)
theorem reach_m {cs : Nat → List Int} {n l o fu : Nat} {p1 p2 : Int32} {d : gT} {L : lT} (hM : MD cs n d) (h61 : d 0 61 = -1) (hl : p1.toInt = (l : Int)) (ln : l < n) (ho : p2.toInt = (o : Int)) (on : o < n) : Pc (fX12_reaches_l43 fu p1 p2 1 d L) (fun x g1 _ => g1 0 = d 0 ∧ UP (RZ cs n d l o p1) x) := by
  have hW := hM.2.1
  have n12 := hM.1.2
  have po : p2 = Int32.ofInt (o : Int) := by rw [← ho]; exact io_i.symm
  unfold fX12_reaches_l43
  refine pc_loop (fun v => ∃ m : Nat, v.1.toInt = (m : Int) ∧ 1 ≤ m ∧ m ≤ 121 ∧ (∀ k, k < 29 → v.2.1 k = d k) ∧ ∀ m', 1 ≤ m' → m' < m → ¬ RZ cs n d l o p1 m') (fun k43 hk v hv => ?_) ⟨1, rfl, by omega, by omega, fun _ _ => rfl, fun m' a b => by omega⟩
  obtain ⟨v3, g', L'⟩ := v
  obtain ⟨m, hm, m1, m2, e, hz⟩ := hv
  replace hm : v3.toInt = (m : Int) := hm
  replace e : ∀ k, k < 29 → g' k = d k := e
  show Pc (fX12_reaches_s43 fu p1 p2 k43 v3 g' L') _
  unfold fX12_reaches_s43
  have i120 : (120 : Int32).toInt = 120 := rfl
  refine pc_ite (fun c => pc_some ⟨e 0 (by omega), Or.inl ⟨rfl, fun m' a b => hz m' a ?_⟩⟩) (fun c => ?_)
  · have c := icc_lt i120 hm c
    omega
  have c := icc_nlt i120 hm c
  have vm : Int32.ofInt (m : Int) = v3 := by rw [← hm]; exact io_i
  refine pc_cb (moreBy_m hM e h61 hl (by omega)) (fun x18 g19 L20 q => ?_)
  obtain ⟨e19, n1, n2, -⟩ := q
  refine pc_cb (later_m (n := n) (by rw [e19 0 (by omega)]; exact hM.1.1) n12) (fun x22 g23 L24 q => ?_)
  obtain ⟨rfl, q⟩ := q
  have iff : RZ cs n d l o p1 m ↔ ¬ g23 32 o ≤ g23 37 o := rz_iff hW on n1 (by rw [vm]; exact n2)
  have ib : (x22 >>> (p2 &&& 31)) &&& 1 = 1 ↔ ¬ g23 32 o ≤ g23 37 o := by
    rw [po]
    show stb x22 o = 1 ↔ _
    rw [stb_1i (by omega), q]
    exact (flb_t (by omega) n n12).trans ⟨fun h => h.2, fun h => ⟨on, h⟩⟩
  refine pc_ite (fun c1 => pc_some ⟨e19 0 (by omega), Or.inr ⟨m, by omega, hm, iff.mpr (ib.mp c1), hz⟩⟩) (fun c1 => hk _ ⟨m + 1, ?_, by omega, by omega, e19, fun m' a b => ?_⟩)
  · show (v3 + 1).toInt = _
    rw [ic_addc hm (n := 1) rfl (by omega) (by omega)]; omega
  · by_cases q' : m' = m
    · rw [q']; exact fun hh => c1 (ib.mpr (iff.mp hh))
    · exact hz m' a (by omega)
theorem slack_x {cs : Nat → List Int} {n l fu : Nat} {p1 : Int32} {g d : gT} {L : lT} (h : DC cs n g d) (h61 : d 0 61 = -1) (hl : p1.toInt = (l : Int)) (ln : l < n) : Pc (fX10_mostThatDies_9 fu p1 g L) (fun x _ _ => DN (DZ cs n d l p1) x) := by
  have hW := h.2.2.2.1
  have n12 := h.1.2
  unfold fX10_mostThatDies_9
  refine pc_cb (tm_0 h ln) (fun _ g2 L3 t2 => ?_)
  unfold fX10_mostThatDies_9_l7
  refine pc_loop (fun v => ∃ m : Nat, v.1.toInt = (m : Int) ∧ m ≤ 120 ∧ TM cs n l d g v.2.1 ∧ ∀ m', m < m' → m' ≤ 120 → ¬ DZ cs n d l p1 m') (fun k7 hk v hv => ?_) ⟨120, rfl, by omega, t2, fun m' a b => by omega⟩
  obtain ⟨v2, g', L'⟩ := v
  obtain ⟨m, hm, m2, t, hz⟩ := hv
  replace hm : v2.toInt = (m : Int) := hm
  replace t : TM cs n l d g g' := t
  show Pc (fX10_mostThatDies_9_s7 fu p1 k7 v2 g' L') _
  unfold fX10_mostThatDies_9_s7
  refine pc_ite (fun c => pc_some (Or.inl ⟨rfl, fun m' a b => hz m' ?_ b⟩)) (fun c => ?_)
  · have c := icc_le hm (n := 0) rfl c
    omega
  have c := icc_nle hm (n := 0) rfl c
  have vm : Int32.ofInt (m : Int) = v2 := by rw [← hm]; exact io_i
  refine pc_cb (tm_s h h61 hl ln t) (fun _ g7 L8 e7 => ?_)
  obtain ⟨t7, n7⟩ := e7
  refine pc_cb (bits_x (tm_c h t7)) (fun x10 g11 L12 q => ?_)
  obtain ⟨rfl, q⟩ := q
  have iff : DZ cs n d l p1 m ↔ (x10 &&& (((1 : Int32) <<< (p1 &&& 31)) ^^^ -1)) = 0 := by
    rw [q]; exact dz_iff hW t7.2.2 (by rw [vm]; exact n7)
  refine pc_ite (fun c1 => pc_some (Or.inr ⟨m, by omega, hm, iff.mpr c1, hz⟩)) (fun c1 => hk _ ⟨m - 1, ?_, by omega, t7, fun m' a b => ?_⟩)
  · show (v2 + (-1)).toInt = _
    rw [ic_addc hm (n := -1) rfl (by omega) (by omega)]; omega
  · by_cases q' : m' = m
    · rw [q']; exact fun hh => c1 (iff.mp hh)
    · exact hz m' (by omega) b
theorem slack_m {cs : Nat → List Int} {n l fu : Nat} {p1 : Int32} {d : gT} {L : lT} (hM : MD cs n d) (h61 : d 0 61 = -1) (hl : p1.toInt = (l : Int)) (ln : l < n) : Pc (fX12_slack_l18 fu p1 120 d L) (fun x g1 _ => g1 0 = d 0 ∧ DN (DZ cs n d l p1) x) := by
  have hW := hM.2.1
  have n12 := hM.1.2
  unfold fX12_slack_l18
  refine pc_loop (fun v => ∃ m : Nat, v.1.toInt = (m : Int) ∧ m ≤ 120 ∧ (∀ k, k < 29 → v.2.1 k = d k) ∧ ∀ m', m < m' → m' ≤ 120 → ¬ DZ cs n d l p1 m') (fun k18 hk v hv => ?_) ⟨120, rfl, by omega, fun _ _ => rfl, fun m' a b => by omega⟩
  obtain ⟨v2, g', L'⟩ := v
  obtain ⟨m, hm, m2, e, hz⟩ := hv
  replace hm : v2.toInt = (m : Int) := hm
  replace e : ∀ k, k < 29 → g' k = d k := e
  show Pc (fX12_slack_s18 fu p1 k18 v2 g' L') _
  unfold fX12_slack_s18
  refine pc_ite (fun c => pc_some ⟨e 0 (by omega), Or.inl ⟨rfl, fun m' a b => hz m' ?_ b⟩⟩) (fun c => ?_)
  · have c := icc_le hm (n := 0) rfl c
    omega
  have c := icc_nle hm (n := 0) rfl c
  have vm : Int32.ofInt (m : Int) = v2 := by rw [← hm]; exact io_i
  refine pc_cb (moreBy_m hM e h61 hl (by omega)) (fun x8 g9 L10 q => ?_)
  obtain ⟨e9, n1, n2, -⟩ := q
  refine pc_cb (later_m (n := n) (by rw [e9 0 (by omega)]; exact hM.1.1) n12) (fun x12 g13 L14 q => ?_)
  obtain ⟨rfl, q⟩ := q
  have iff : DZ cs n d l p1 m ↔ (x12 &&& (((1 : Int32) <<< (p1 &&& 31)) ^^^ -1)) = 0 := by
    rw [q]; exact dz_iff hW n1 (by rw [vm]; exact n2)
  refine pc_ite (fun c1 => pc_some ⟨e9 0 (by omega), Or.inr ⟨m, by omega, hm, iff.mpr c1, hz⟩⟩) (fun c1 => hk _ ⟨m - 1, ?_, by omega, e9, fun m' a b => ?_⟩)
  · show (v2 + (-1)).toInt = _
    rw [ic_addc hm (n := -1) rfl (by omega) (by omega)]; omega
  · by_cases q' : m' = m
    · rw [q']; exact fun hh => c1 (iff.mp hh)
    · exact hz m' (by omega) b
end
section
/-! ===== far, reaches, slack, answered ===== -/
theorem fd_61 {g gm : gT} (h : CR g gm) : upd2 gm 0 0 0 0 61 = -1 := by
  rw [upd2_nj (by decide)]
  exact h.1.2.2.2.2.2.2.2.2
theorem cr_far {fu : Nat} {p1 p2 p3 : Int32} {g gm g1 g2 : gT} {L Lm L1 L2 : lT} {rx : Except String Int32} {rm : Int32} (h : CR g gm) (e1 : fX11_far_0 fu p1 p2 p3 g L = some (rx, (g1, L1))) (e2 : fX12_far fu p1 p2 p3 gm Lm = some (rm, (g2, L2))) : (rx = .ok rm ∧ g2 0 0 = 0) ∨ (rx = .error NSE ∧ g2 0 0 = 1) ∨ (rx = .error IAE ∧ g2 0 0 = 2) := by
  have hp := h.1.1
  have hI := hp.2.1
  obtain ⟨k1, -⟩ := hp.2.2.2.2.2.2.1
  have r1 := hI 0 1 0 12 rfl
  have h61 := fd_61 h
  have a0 : upd2 gm 0 0 0 0 0 = 0 := upd2_at
  have a1 : upd2 gm 0 0 0 0 1 = gm 0 1 := rfl
  unfold fX11_far_0 fX11_far_0_p54 at e1
  unfold fX12_far fX12_far_p37 fX12_far_p60 at e2
  unfold sti at e2
  have e2 : cb (fX12_isLesson fu p1 (upd2 gm 0 0 0) Lm) _ = some (rm, (g2, L2)) := e2
  by_cases c1 : isL (gm 0 1) p1
  rotate_left
  · rw [xneed0 (by rw [k1]; exact c1)] at e1
    have e1 : some (.error NSE, (g, L)) = some (rx, (g1, L1)) := e1
    rw [lesson0 a0 (by rw [a1]; exact c1)] at e2
    have e2 : some ((0 : Int32), (upd2 (upd2 gm 0 0 0) 0 0 1, Lm)) = some (rm, (g2, L2)) := e2
    cases e1; cases e2
    exact Or.inr (Or.inl ⟨rfl, upd2_at⟩)
  rw [xneed1 (by rw [k1]; exact c1), cbxs] at e1
  rw [lesson1 a0 (by rw [a1]; exact c1), cbs, if_neg (by decide)] at e2
  have i1 : (1 : Int32).toInt = 1 := rfl
  have i2 : (2 : Int32).toInt = 2 := rfl
  by_cases c2 : 0 ≤ p3.toInt ∧ p3.toInt ≤ (1 : Int32).toInt
  rotate_left
  · rw [xwhat0 (fun hh => c2 (by omega))] at e1
    have e1 : some (.error NSE, (g, L)) = some (rx, (g1, L1)) := e1
    rw [what0 a0 c2] at e2
    have e2 : some ((0 : Int32), (upd2 (upd2 gm 0 0 0) 0 0 1, Lm)) = some (rm, (g2, L2)) := e2
    cases e1; cases e2
    exact Or.inr (Or.inl ⟨rfl, upd2_at⟩)
  rw [xwhat1 c2.1 (by omega), cbxs] at e1
  rw [what1 a0 c2.1 c2.2, cbs, if_neg (by decide)] at e2
  by_cases c3 : (0 : Int32).toInt ≤ p2.toInt ∧ p2.toInt ≤ (120 : Int32).toInt
  rotate_left
  · rw [xwith0 c3] at e1
    have e1 : some (.error IAE, (g, L)) = some (rx, (g1, L1)) := e1
    rw [within0 c3, cbs, right0 a0 (by decide), cbs, if_pos rfl] at e2
    cases e1; cases e2
    exact Or.inr (Or.inr ⟨rfl, upd2_at⟩)
  rw [xwith1 c3.1 c3.2, cbxs] at e1
  rw [within1 c3.1 c3.2, cbs, right1 a0, cbs, if_neg (by decide)] at e2
  have hl := l12 c1 r1.2
  obtain ⟨l, el⟩ : ∃ i : Nat, p1.toInt = (i : Int) := ⟨p1.toInt.toNat, by omega⟩
  have nl : l < (gm 0 1).toInt.toNat := by have := c1.2; omega
  obtain ⟨xa, ga, La, ea, e1⟩ := cb_some e1
  obtain ⟨xb, gb, Lb, eb, e1⟩ := cb_some e1
  obtain ⟨xc, gc, Lc, ec, e2⟩ := cb_some e2
  obtain ⟨cs, hX, hM, -⟩ := dc_all h
  have hX := hX.d (e0_u (x := 0))
  have hM := hM.d (e0_u (x := 0))
  have hW := hM.2.1
  have ta := tm_0 hX nl _ _ _ ea
  obtain ⟨tB, nB⟩ := tm_s hX h61 el nl ta _ _ _ eb
  obtain ⟨ec29, n1, n2, ex⟩ := moreBy_m hM (fun _ _ => rfl) h61 el (by omega) _ _ _ ec
  have hD := tm_c hX tB
  by_cases c0 : p3 = 0
  · rw [if_pos c0] at e1 e2
    obtain ⟨xd, gd, Ld, ed, e1⟩ := cb_some e1
    obtain ⟨xf, gf, Lf, ef, e2⟩ := cb_some e2
    cases e1; cases e2
    obtain ⟨-, u⟩ := bits_x hD _ _ _ ed
    obtain ⟨v0, v⟩ := later_m (n := (gm 0 1).toInt.toNat) (by rw [ec29 0 (by omega)]; exact hM.1.1) hM.1.2 _ _ _ ef
    refine Or.inl ⟨?_, by rw [v0, ec29 0 (by omega)]; exact a0⟩
    rw [u, v, flb_u hW (wf_mo hW) tB.2.2 nB n1 n2]
  · rw [if_neg c0] at e1 e2
    obtain ⟨xd, gd, Ld, ed, e1⟩ := cb_some e1
    cases e1; cases e2
    obtain ⟨-, u⟩ := mins_x hD _ _ _ ed
    refine Or.inl ⟨?_, by rw [ec29 0 (by omega)]; exact a0⟩
    have q : fo (fLM (gb 44) (gb 49)) (gm 0 1).toInt.toNat = fo (fLM (g2 32) (g2 37)) (gm 0 1).toInt.toNat := fo_c (fun i hi a => by unfold fLM; rw [EN.u hW tB.2.2 n1 i hi, EN.u (wf_mo hW) nB n2 i hi])
    rw [u, ex, q]
theorem cr_reaches {fu : Nat} {p1 p2 : Int32} {g gm g1 g2 : gT} {L Lm L1 L2 : lT} {rx : Except String Int32} {rm : Int32} (h : CR g gm) (e1 : fX11_reaches_0 fu p1 p2 g L = some (rx, (g1, L1))) (e2 : fX12_reaches fu p1 p2 gm Lm = some (rm, (g2, L2))) : (rx = .ok rm ∧ g2 0 0 = 0) ∨ (rx = .error NSE ∧ g2 0 0 = 1) ∨ (rx = .error IAE ∧ g2 0 0 = 2) := by
  have hp := h.1.1
  have hI := hp.2.1
  obtain ⟨k1, -⟩ := hp.2.2.2.2.2.2.1
  have r1 := hI 0 1 0 12 rfl
  have h61 := fd_61 h
  have a0 : upd2 gm 0 0 0 0 0 = 0 := upd2_at
  have a1 : upd2 gm 0 0 0 0 1 = gm 0 1 := rfl
  unfold fX11_reaches_0 at e1
  unfold fX12_reaches fX12_reaches_p39 fX12_reaches_p32 fX12_reaches_p39 at e2
  unfold sti at e2
  have e2 : cb (fX12_isLesson fu p1 (upd2 gm 0 0 0) Lm) _ = some (rm, (g2, L2)) := e2
  by_cases c1 : isL (gm 0 1) p1
  rotate_left
  · rw [xneed0 (by rw [k1]; exact c1)] at e1
    have e1 : some (.error NSE, (g, L)) = some (rx, (g1, L1)) := e1
    rw [lesson0 a0 (by rw [a1]; exact c1)] at e2
    have e2 : some ((0 : Int32), (upd2 (upd2 gm 0 0 0) 0 0 1, Lm)) = some (rm, (g2, L2)) := e2
    cases e1; cases e2
    exact Or.inr (Or.inl ⟨rfl, upd2_at⟩)
  rw [xneed1 (by rw [k1]; exact c1), cbxs] at e1
  rw [lesson1 a0 (by rw [a1]; exact c1), cbs, if_neg (by decide)] at e2
  by_cases c2 : isL (gm 0 1) p2
  rotate_left
  · rw [xneed0 (by rw [k1]; exact c2)] at e1
    have e1 : some (.error NSE, (g, L)) = some (rx, (g1, L1)) := e1
    rw [lesson0 a0 (by rw [a1]; exact c2)] at e2
    have e2 : some ((0 : Int32), (upd2 (upd2 gm 0 0 0) 0 0 1, Lm)) = some (rm, (g2, L2)) := e2
    cases e1; cases e2
    exact Or.inr (Or.inl ⟨rfl, upd2_at⟩)
  rw [xneed1 (by rw [k1]; exact c2), cbxs] at e1
  rw [lesson1 a0 (by rw [a1]; exact c2), cbs, if_neg (by decide)] at e2
  by_cases c3 : p1 = p2
  · rw [if_pos c3] at e1 e2
    rw [right0 a0 (by decide), cbs, if_pos rfl] at e2
    cases e1; cases e2
    exact Or.inr (Or.inr ⟨rfl, upd2_at⟩)
  rw [if_neg c3] at e1 e2
  rw [right1 a0, cbs, if_neg (by decide)] at e2
  have hl := l12 c1 r1.2
  have ho := l12 c2 r1.2
  obtain ⟨l, el⟩ : ∃ i : Nat, p1.toInt = (i : Int) := ⟨p1.toInt.toNat, by omega⟩
  obtain ⟨o, eo⟩ : ∃ i : Nat, p2.toInt = (i : Int) := ⟨p2.toInt.toNat, by omega⟩
  have nl : l < (gm 0 1).toInt.toNat := by have := c1.2; omega
  have no : o < (gm 0 1).toInt.toNat := by have := c2.2; omega
  obtain ⟨xa, ga, La, ea, e1⟩ := cb_some e1
  cases e1
  obtain ⟨cs, hX, hM, -⟩ := dc_all h
  have u := reach_x (hX.d (e0_u (x := 0))) h61 el nl eo no _ _ _ ea
  have v := reach_m (hM.d (e0_u (x := 0))) h61 el nl eo no _ _ _ e2
  exact Or.inl ⟨by rw [UP.u u v.2], by rw [v.1]; exact a0⟩
theorem cr_slack {fu : Nat} {p1 : Int32} {g gm g1 g2 : gT} {L Lm L1 L2 : lT} {rx : Except String Int32} {rm : Int32} (h : CR g gm) (e1 : fX11_slack_0 fu p1 g L = some (rx, (g1, L1))) (e2 : fX12_slack fu p1 gm Lm = some (rm, (g2, L2))) : (rx = .ok rm ∧ g2 0 0 = 0) ∨ (rx = .error NSE ∧ g2 0 0 = 1) := by
  have hp := h.1.1
  have hI := hp.2.1
  obtain ⟨k1, -⟩ := hp.2.2.2.2.2.2.1
  have r1 := hI 0 1 0 12 rfl
  have h61 := fd_61 h
  have a0 : upd2 gm 0 0 0 0 0 = 0 := upd2_at
  have a1 : upd2 gm 0 0 0 0 1 = gm 0 1 := rfl
  unfold fX11_slack_0 at e1
  unfold fX12_slack at e2
  unfold sti at e2
  have e2 : cb (fX12_isLesson fu p1 (upd2 gm 0 0 0) Lm) _ = some (rm, (g2, L2)) := e2
  by_cases c1 : isL (gm 0 1) p1
  rotate_left
  · rw [xneed0 (by rw [k1]; exact c1)] at e1
    have e1 : some (.error NSE, (g, L)) = some (rx, (g1, L1)) := e1
    rw [lesson0 a0 (by rw [a1]; exact c1)] at e2
    have e2 : some ((0 : Int32), (upd2 (upd2 gm 0 0 0) 0 0 1, Lm)) = some (rm, (g2, L2)) := e2
    cases e1; cases e2
    exact Or.inr ⟨rfl, upd2_at⟩
  rw [xneed1 (by rw [k1]; exact c1), cbxs] at e1
  rw [lesson1 a0 (by rw [a1]; exact c1), cbs, if_neg (by decide)] at e2
  have hl := l12 c1 r1.2
  obtain ⟨l, el⟩ : ∃ i : Nat, p1.toInt = (i : Int) := ⟨p1.toInt.toNat, by omega⟩
  have nl : l < (gm 0 1).toInt.toNat := by have := c1.2; omega
  obtain ⟨xa, ga, La, ea, e1⟩ := cb_some e1
  cases e1
  obtain ⟨cs, hX, hM, -⟩ := dc_all h
  have u := slack_x (hX.d (e0_u (x := 0))) h61 el nl _ _ _ ea
  have v := slack_m (hM.d (e0_u (x := 0))) h61 el nl _ _ _ e2
  exact Or.inl ⟨by rw [DN.u u v.2], by rw [v.1]; exact a0⟩
/-! ===== how far the numbers of a day go ===== -/
def NB (n : Nat) (d : gT) : Prop := (∀ i : Nat, i < n → ((0 ≤ (d 1 i).toInt ∧ (d 1 i).toInt < (d 2 i).toInt ∧ (d 2 i).toInt ≤ 999) ∧ (1 ≤ (d 3 i).toInt ∧ (d 3 i).toInt ≤ 200) ∧ (1 ≤ (d 4 i).toInt ∧ (d 4 i).toInt ≤ 99) ∧ (0 ≤ (d 7 i).toInt ∧ (d 7 i).toInt ≤ 10)) ∧ (0 ≤ (d 12 (36 + i)).toInt ∧ (d 12 (36 + i)).toInt ≤ 99) ∧ (0 ≤ (d 12 (24 + i)).toInt ∧ (d 12 (24 + i)).toInt ≤ 9)) ∧ (0 ≤ (d 0 3).toInt ∧ (d 0 3).toInt ≤ 9) ∧ (1 ≤ (d 0 4).toInt ∧ (d 0 4).toInt ≤ 99)
theorem nb_of {g gm e : gT} (h : CS g gm) (he : E0 gm e) : NB (gm 0 1).toInt.toNat e := by
  obtain ⟨h, hV⟩ := h
  have hI := h.1.1.2.1
  have q4 := hI 0 4 1 99 rfl
  have e3 : e 0 3 = gm 0 3 := he 0 3 (fun x => absurd x.2 (by decide))
  have e4 : e 0 4 = gm 0 4 := he 0 4 (fun x => absurd x.2 (by decide))
  unfold NB
  rw [he.k (show 1 ≠ 0 by decide), he.k (show 2 ≠ 0 by decide), he.k (show 3 ≠ 0 by decide), he.k (show 4 ≠ 0 by decide), he.k (show 7 ≠ 0 by decide), he.k (show 12 ≠ 0 by decide), e3, e4]
  exact ⟨fun i hi => ⟨hV.1.1 i (by omega), hV.2.1.1 i (by omega), h.2.2.1.1 i (by omega)⟩, hV.1.2, q4⟩
theorem clp_b {m v : Int32} (h : 0 ≤ m.toInt) : 0 ≤ (clp m v).toInt ∧ (clp m v).toInt ≤ m.toInt := by
  unfold clp
  by_cases a : 0 ≤ v
  · rw [if_pos a]
    by_cases b : v ≤ m
    · rw [if_pos b]
      exact ⟨icc_le (m := 0) (n := v.toInt) rfl rfl a, ic_le.mp b⟩
    · rw [if_neg b]
      exact ⟨h, Int.le_refl _⟩
  · rw [if_neg a]
    exact ⟨Int.le_refl _, h⟩
theorem ov_b {cs : Nat → List Int} {d : gT} {i : Nat} {b : Int32} : 0 ≤ (ov cs d i b).toInt ∧ (ov cs d i b).toInt ≤ 180 := by
  rw [ov_e]
  by_cases c : stb (d 0 60) i = 1
  · rw [if_pos c]; exact ⟨by decide, by decide⟩
  · rw [if_neg c]
    by_cases c1 : d 0 61 = Int32.ofInt (i : Int)
    · rw [if_pos c1]; exact clp_b (m := 180) (by decide)
    · rw [if_neg c1]
      have := clp_b (m := 60) (v := gv cs d i b) (by decide)
      have e : (60 : Int32).toInt = 60 := rfl
      omega
/-- when a lesson begins and ends, at most and at least -/
theorem dy_b {cs : Nat → List Int} {n : Nat} {d : gT} {bg en ru by_ : Nat → Int32} (hN : NB n d) (h : DY cs d n bg en ru by_) : ∀ i, i < n → ((d 1 i).toInt ≤ (bg i).toInt ∧ (bg i).toInt ≤ 1098) ∧ ((bg i).toInt < (en i).toInt ∧ (d 2 i).toInt ≤ (en i).toInt ∧ (en i).toInt ≤ 1478) := by
  intro i hi
  obtain ⟨⟨⟨f1, f2, f3⟩, ⟨f4, f5⟩, -⟩, ⟨f6, f7⟩, -⟩ := hN.1 i hi
  obtain ⟨hl, hr, he⟩ := h i hi
  have sl : (d 1 i + d 12 (36 + i)).toInt = (d 1 i).toInt + (d 12 (36 + i)).toInt := ic_addc rfl rfl (by omega) (by omega)
  have hb : (d 1 i).toInt ≤ (bg i).toInt ∧ (bg i).toInt ≤ 1098 := by
    rcases hl with ⟨-, b, -⟩ | ⟨-, v, -, ⟨-, b, -⟩ | ⟨-, -, b, -⟩ | ⟨c1, c2, b, -⟩⟩
    · rw [b]; omega
    · rw [b]; omega
    · rw [b]; omega
    · rw [b]; omega
  have o := ov_b (cs := cs) (d := d) (i := i) (b := bg i)
  rw [← hr] at o
  have s1 : (bg i + d 3 i).toInt = (bg i).toInt + (d 3 i).toInt := ic_addc rfl rfl (by omega) (by omega)
  refine ⟨hb, ?_⟩
  by_cases c : d 2 i < bg i + d 3 i
  · have c' := ic_lt.mp c
    rw [if_pos c] at he
    have e : (en i).toInt = (bg i).toInt + (d 3 i).toInt + (ru i).toInt := by rw [he]; exact ic_addc s1 rfl (by omega) (by omega)
    omega
  · have c' := icc_nlt (m := (d 2 i).toInt) (n := (bg i + d 3 i).toInt) rfl rfl c
    rw [if_neg c] at he
    have e : (en i).toInt = (d 2 i).toInt + (ru i).toInt := by rw [he]; exact ic_addc rfl rfl (by omega) (by omega)
    omega
end
section
/-! ===== the ways that lead over the stair ===== -/
abbrev W2 : Type := List (Nat × Nat)
/-- of a lesson's ways, the first k -/
def wk (d : gT) (i : Nat) : Nat → W2
  | 0 => []
  | k + 1 => wk d i k ++ (if (5 ≤ (d 12 (24 + wf0 d i k)).toInt ↔ 5 ≤ (d 12 (24 + i)).toInt) then [] else [(wf0 d i k, i)])
def wl (d : gT) : Nat → W2
  | 0 => []
  | i + 1 => wl d i ++ wk d i (d 8 i).toInt.toNat
theorem wk_len {d : gT} {i : Nat} : ∀ k, (wk d i k).length ≤ k := by
  intro k
  induction k with
  | zero => exact Nat.le_refl _
  | succ k ih =>
    unfold wk
    rw [List.length_append]
    split
    · show _ + 0 ≤ _; omega
    · show _ + 1 ≤ _; omega
theorem wl_len {d : gT} {n : Nat} (h : ∀ i, i < n → (d 8 i).toInt.toNat ≤ 6) : ∀ i, i ≤ n → (wl d i).length ≤ 6 * i := by
  intro i
  induction i with
  | zero => intro _; exact Nat.le_refl _
  | succ i ih =>
    intro hi
    unfold wl
    rw [List.length_append]
    have a := ih (by omega)
    have b := wk_len (d := d) (i := i) (d 8 i).toInt.toNat
    have c := h i (by omega)
    omega
/-- a way: from a lesson ahead, over the stair -/
def WO (d : gT) (n : Nat) (p : Nat × Nat) : Prop := p.1 < p.2 ∧ p.2 < n ∧ ¬ (5 ≤ (d 12 (24 + p.1)).toInt ↔ 5 ≤ (d 12 (24 + p.2)).toInt)
theorem wk_o {d : gT} {n i : Nat} (hW : WF n d) (hi : i < n) : ∀ k, k ≤ (d 8 i).toInt.toNat → ∀ p ∈ wk d i k, WO d n p := by
  intro k
  induction k with
  | zero => intro _ p hp; exact absurd hp List.not_mem_nil
  | succ k ih =>
    intro hk p hp
    unfold wk at hp
    rcases List.mem_append.mp hp with hp | hp
    · exact ih (by omega) p hp
    · split at hp
      · exact absurd hp List.not_mem_nil
      · rename_i c
        rw [List.mem_singleton.mp hp]
        exact ⟨wf_lt hW hi (by omega), hi, c⟩
theorem wl_o {d : gT} {n : Nat} (hW : WF n d) : ∀ i, i ≤ n → ∀ p ∈ wl d i, WO d n p := by
  intro i
  induction i with
  | zero => intro _ p hp; exact absurd hp List.not_mem_nil
  | succ i ih =>
    intro hi p hp
    unfold wl at hp
    rcases List.mem_append.mp hp with hp | hp
    · exact ih (by omega) p hp
    · exact wk_o hW (by omega) _ (Nat.le_refl _) p hp
def upv (d : gT) (i : Nat) : Int32 := if 5 ≤ (d 12 (24 + i)).toInt then 1 else 0
/-- the ways as the class holds them; as the reference does -/
def WX (d : gT) (en : Nat → Int32) (l : W2) (g : gT) : Prop := (g 12 5).toInt = (l.length : Int) ∧ ∀ (w : Nat) (p : Nat × Nat), l[w]? = some p → g 53 w = en p.1 ∧ g 54 w = en p.1 + wy d p.1 p.2 ∧ g 55 w = d 4 p.1 ∧ g 56 w = upv d p.2
def WY (d : gT) (en : Nat → Int32) (l : W2) (g : gT) : Prop := (g 0 79).toInt = (l.length : Int) ∧ ∀ (w : Nat) (p : Nat × Nat), l[w]? = some p → (g 44 w).toInt = (p.1 : Int) ∧ g 45 w = en p.1 ∧ g 46 w = wy d p.1 p.2 ∧ g 47 w = upv d p.2
theorem ap_1 {l : W2} {p q : Nat × Nat} {w : Nat} (h : (l ++ [p])[w]? = some q) : (w < l.length ∧ l[w]? = some q) ∨ (w = l.length ∧ q = p) := by
  rw [List.getElem?_append] at h
  by_cases c : w < l.length
  · rw [if_pos c] at h; exact Or.inl ⟨c, h⟩
  · rw [if_neg c] at h
    cases hk : w - l.length with
    | zero =>
      rw [hk] at h
      have h : some p = some q := h
      cases h
      exact Or.inr ⟨by omega, rfl⟩
    | succ k =>
      rw [hk] at h
      exact nomatch h
theorem nar_b {x : Int32} (h : x = 1 ∨ x = 0) : vp_nar .boolean x = x := by
  rcases h with rfl | rfl <;> rfl
theorem upv_x {d : gT} {i : Nat} {x r : Int32} (hr : r = d 12 (24 + i)) (h : (x = 1 ∧ 5 ≤ r.toInt) ∨ (x = 0 ∧ r.toInt < 5)) : (x = 1 ∨ x = 0) ∧ x = upv d i ∧ (x = 1 ↔ 5 ≤ (d 12 (24 + i)).toInt) := by
  rw [hr] at h
  unfold upv
  rcases h with ⟨a, b⟩ | ⟨a, b⟩
  · rw [if_pos b]; exact ⟨Or.inl a, a, fun _ => b, fun _ => a⟩
  · rw [if_neg (by omega)]
    refine ⟨Or.inr a, a, fun q => ?_, fun q => by omega⟩
    rw [a] at q; exact absurd q (by decide)
theorem addWay_x {cs : Nat → List Int} {n j i fu : Nat} {p1 p2 : Int32} {g d : gT} {L : lT} {l : W2} (h : DC cs n g d) (hj : p1.toInt = (j : Int)) (hi : p2.toInt = (i : Int)) (jn : j < n) (ni : i < n) (hl : l.length < 72) (hw : WX d (g 44) l g) : Pc (fX9_addWay_12 fu p1 p2 g L) (fun _ g1 _ => WX d (g 44) (l ++ [(j, i)]) g1 ∧ ∀ k, k ≠ 12 → (k < 53 ∨ 56 < k) → g1 k = g k) := by
  have n12 := h.1.2
  have ej : p1.toNatClampNeg = j := by rw [nc, hj]; omega
  have ei : p2.toNatClampNeg = i := by rw [nc, hi]; omega
  have eM : (g 12 5).toNatClampNeg = l.length := by rw [nc, hw.1]; omega
  have cell : ∀ g' : gT, (∀ k, k ≠ 12 → (k < 53 ∨ 56 < k) → g' k = g k) → DC cs n g' d := fun g' e => h.c3 (fun k a => e k (by omega) (by omega))
  unfold fX9_addWay_12 fX9_addWay_12_p106
  refine pc_ite (fun c => ?_) (fun c => ?_)
  · have c := icc_le (m := 72) rfl hw.1 c
    omega
  rw [ej, eM]
  refine pc_ck (fun _ _ => pc_ck (fun _ _ => pc_st (fun g2 e2 => pc_ck (fun _ _ => ?_))))
  have o2 : ∀ k, k ≠ 53 → g2 k = g k := fun k hk => by rw [e2]; exact funext fun _ => upd2_nk hk
  refine pc_cb (way_x (cell g2 (fun k _ b => o2 k (by omega))) hj hi jn ni) (fun x3 g4 L5 q3 => ?_)
  obtain ⟨rfl, q3⟩ := q3
  rw [o2 12 (by decide), eM, o2 44 (by decide)]
  refine pc_ck (fun _ _ => pc_st (fun g7 e7 => ?_))
  have o7 : ∀ k, k ≠ 53 → k ≠ 54 → g7 k = g k := fun k a b => by rw [e7, ← o2 k a]; exact funext fun _ => upd2_nk b
  rw [o7 12 (by decide) (by decide), eM, show j % 12 = j by omega]
  refine pc_ck (fun _ _ => pc_ltn (fun q8 eq8 => ?_))
  subst eq8
  rw [o7 (57 + j) (by omega) (by omega), (h.2.1 j jn).1.1.2.2.2]
  refine pc_ck (fun _ _ => pc_st (fun g9 e9 => ?_))
  have o9 : ∀ k, k ≠ 53 → k ≠ 54 → k ≠ 55 → g9 k = g k := fun k a b c => by rw [e9, ← o7 k a b]; exact funext fun _ => upd2_nk c
  refine pc_cb up_x (fun x10 g11 L12 q10 => ?_)
  obtain ⟨rfl, q10⟩ := q10
  rw [ei, o9 27 (by decide) (by decide) (by decide)] at q10
  obtain ⟨b1, b2, -⟩ := upv_x (d := d) (i := i) (h.2.1 i ni).2.2.2.1 q10
  rw [o9 12 (by decide) (by decide) (by decide), eM, nar_b b1, b2]
  refine pc_ck (fun _ _ => pc_st (fun g14 e14 => ?_))
  have o14 : ∀ k, k ≠ 53 → k ≠ 54 → k ≠ 55 → k ≠ 56 → g14 k = g k := fun k a b c e => by rw [e14, ← o9 k a b c]; exact funext fun _ => upd2_nk e
  refine pc_st (fun g15 e15 => pc_some ⟨⟨?_, fun w p hp => ?_⟩, fun k a b => ?_⟩)
  · rw [e15, upd2_at, o14 12 (by decide) (by decide) (by decide) (by decide), ic_addc hw.1 (n := 1) rfl (by omega) (by omega), List.length_append]
    show _ = ((l.length + 1 : Nat) : Int)
    omega
  · have z53 : ∀ w, g15 53 w = upd2 g 53 l.length (g 44 j) 53 w := fun w => by
      rw [e15, upd2_nk (by decide), e14, upd2_nk (by decide), e9, upd2_nk (by decide), e7, upd2_nk (by decide), e2]
    have z54 : ∀ w, g15 54 w = upd2 g 54 l.length (g 44 j + wy d j i) 54 w := fun w => by
      rw [e15, upd2_nk (by decide), e14, upd2_nk (by decide), e9, upd2_nk (by decide), e7, q3]
      by_cases c : w = l.length
      · rw [c, upd2_at, upd2_at]
      · rw [upd2_nj c, upd2_nj c, o2 54 (by decide)]
    have z55 : ∀ w, g15 55 w = upd2 g 55 l.length (d 4 j) 55 w := fun w => by
      rw [e15, upd2_nk (by decide), e14, upd2_nk (by decide), e9]
      by_cases c : w = l.length
      · rw [c, upd2_at, upd2_at]
      · rw [upd2_nj c, upd2_nj c, o7 55 (by decide) (by decide)]
    have z56 : ∀ w, g15 56 w = upd2 g 56 l.length (upv d i) 56 w := fun w => by
      rw [e15, upd2_nk (by decide), e14]
      by_cases c : w = l.length
      · rw [c, upd2_at, upd2_at]
      · rw [upd2_nj c, upd2_nj c, o9 56 (by decide) (by decide) (by decide)]
    rw [z53, z54, z55, z56]
    rcases ap_1 hp with ⟨c, hq⟩ | ⟨c, hq⟩
    · have ne : w ≠ l.length := by omega
      rw [upd2_nj ne, upd2_nj ne, upd2_nj ne, upd2_nj ne]
      exact hw.2 w p hq
    · rw [c, hq, upd2_at, upd2_at, upd2_at, upd2_at]
      exact ⟨rfl, rfl, rfl, rfl⟩
  · rw [e15, ← o14 k (by omega) (by omega) (by omega) (by omega)]
    exact funext fun _ => upd2_nk a
theorem gather_x {cs : Nat → List Int} {n fu : Nat} {g d : gT} {L : lT} (h : DC cs n g d) : Pc (fX9_gather_12 fu g L) (fun _ g1 _ => DC cs n g1 d ∧ DY cs d n (g1 43) (g1 44) (g1 45) (g1 46) ∧ WX d (g1 44) (wl d n) g1) := by
  have hW := h.2.2.2.1
  have n12 := h.1.2
  have h8 : ∀ i, i < n → (d 8 i).toInt.toNat ≤ 6 := fun i hi => by have := (h.2.2.2.2.1 i hi).2; omega
  unfold fX9_gather_12
  refine pc_cb (rf_x h (f := 0) rfl (Nat.zero_le _)) (fun _ g2 L3 e2 => pc_st (fun g5 e5 => ?_))
  have h2 : DC cs n g2 d := h.c e2.2.2
  have cell : ∀ g' : gT, (∀ k, k ≠ 12 → (k < 53 ∨ 56 < k) → g' k = g2 k) → DC cs n g' d := fun g' e => h2.c3 (fun k a => e k (by omega) (by omega))
  have k5 : ∀ k, k ≠ 12 → g5 k = g2 k := fun k hk => by rw [e5]; exact funext fun _ => upd2_nk hk
  unfold fX9_gather_12_l15
  refine pc_loop (fun v => ∃ i : Nat, v.1.toInt = (i : Int) ∧ i ≤ n ∧ (∀ k, k ≠ 12 → (k < 53 ∨ 56 < k) → v.2.1 k = g2 k) ∧ WX d (g2 44) (wl d i) v.2.1) (fun k15 hk v hv => ?_) ⟨0, rfl, by omega, fun k a _ => k5 k a, ⟨by show (g5 12 5).toInt = 0; rw [e5, upd2_at]; rfl, fun w p hp => nomatch hp⟩⟩
  obtain ⟨v1, g', L'⟩ := v
  obtain ⟨i, hi, ni, ek, hw⟩ := hv
  replace hi : v1.toInt = (i : Int) := hi
  replace ek : ∀ k, k ≠ 12 → (k < 53 ∨ 56 < k) → g' k = g2 k := ek
  replace hw : WX d (g2 44) (wl d i) g' := hw
  show Pc (fX9_gather_12_s15 fu k15 v1 g' L') _
  unfold fX9_gather_12_s15
  have h' := cell g' ek
  refine pc_ite (fun c => pc_some ?_) (fun c => ?_)
  · have c := icc_le h'.1.1 hi c
    have em : i = n := by omega
    rw [em] at hw
    refine ⟨h', ?_, ?_⟩
    · rw [ek 43 (by decide) (by omega), ek 44 (by decide) (by omega), ek 45 (by decide) (by omega), ek 46 (by decide) (by omega)]
      exact fun i hi => e2.1 i (Nat.zero_le _) hi
    · rw [ek 44 (by decide) (by omega)]; exact hw
  have c := icc_nle h'.1.1 hi c
  have i' : i < n := by omega
  have b8 := (h.2.2.2.2.1 i i').2
  have ei : v1.toNatClampNeg = i := by rw [nc, hi]; omega
  obtain ⟨N, hN⟩ : ∃ N : Nat, (d 8 i).toInt = (N : Int) := ⟨(d 8 i).toInt.toNat, by omega⟩
  have hNn : (d 8 i).toInt.toNat = N := by omega
  have f1 : ∀ g'' : gT, (∀ k, k ≠ 12 → (k < 53 ∨ 56 < k) → g'' k = g2 k) → g'' (57 + i) 1 = d 8 i := fun g'' e => by
    rw [e (57 + i) (by omega) (by omega)]; exact (h2.2.1 i i').1.2.1.2.2.2
  have fw : ∀ k : Nat, (k : Int) < (d 8 i).toInt → g2 (81 + i) k = d 9 (6 * i + k) := (h2.2.1 i i').1.2.2.2
  have wln := wl_len h8 i (by omega)
  rw [ei, show i % 12 = i by omega]
  refine pc_ck (fun _ _ => pc_ltn (fun q eq => ?_))
  subst eq
  unfold fX9_gather_12_l44
  refine pc_loop (fun v => ∃ k : Nat, v.1.toInt = (k : Int) ∧ k ≤ N ∧ (∀ k, k ≠ 12 → (k < 53 ∨ 56 < k) → v.2.1 k = g2 k) ∧ WX d (g2 44) (wl d i ++ wk d i k) v.2.1) (fun k44 hk2 v hv => ?_) ⟨0, rfl, by omega, ek, by show WX d (g2 44) (wl d i ++ []) g'; rw [List.append_nil]; exact hw⟩
  obtain ⟨v3, g4, L4⟩ := v
  obtain ⟨k, hkk, kN, ek4, hw4⟩ := hv
  replace hkk : v3.toInt = (k : Int) := hkk
  replace ek4 : ∀ k, k ≠ 12 → (k < 53 ∨ 56 < k) → g4 k = g2 k := ek4
  replace hw4 : WX d (g2 44) (wl d i ++ wk d i k) g4 := hw4
  have h4 := cell g4 ek4
  show Pc (fX9_gather_12_s44 fu k15 v1 (57 + i) k44 v3 g4 L4) _
  unfold fX9_gather_12_s44 fX9_gather_12_p87
  have e3 : v3.toNatClampNeg = k := by rw [nc, hkk]; omega
  rw [f1 g4 ek4, e3, show 57 + i + 24 = 81 + i by omega, ek4 (81 + i) (by omega) (by omega)]
  refine pc_ite (fun c1 => hk _ ⟨i + 1, ?_, by omega, ek4, ?_⟩) (fun c1 => ?_)
  · show (v1 + 1).toInt = _
    rw [ic_addc hi (n := 1) rfl (by omega) (by omega)]; omega
  · have c1 := icc_le hN hkk c1
    show WX d (g2 44) (wl d i ++ wk d i (d 8 i).toInt.toNat) g4
    rw [hNn, show N = k by omega]; exact hw4
  have c1 := icc_nle hN hkk c1
  have ew : (v3 + 1).toInt = ((k + 1 : Nat) : Int) := by rw [ic_addc hkk (n := 1) rfl (by omega) (by omega)]; omega
  have jl : wf0 d i k < i := wf_lt hW i' (by omega)
  have wm := (hW i i').2.2 k (by omega)
  refine pc_ck (fun _ _ => pc_lti (fun x9 e9 => ?_))
  rw [fw k (by omega)] at e9
  have h9 : x9.toInt = ((wf0 d i k : Nat) : Int) := by rw [e9]; unfold wf0; omega
  have e9n : x9.toNatClampNeg = wf0 d i k := by rw [nc, h9]; omega
  refine pc_cb up_x (fun x10 g11 L12 q10 => ?_)
  obtain ⟨rfl, q10⟩ := q10
  refine pc_cb up_x (fun x14 g15 L16 q14 => ?_)
  obtain ⟨rfl, q14⟩ := q14
  rw [e9n] at q10
  rw [ei] at q14
  obtain ⟨b1, -, b3⟩ := upv_x (d := d) (i := wf0 d i k) (h4.2.1 _ (by omega)).2.2.2.1 q10
  obtain ⟨c1', -, c3⟩ := upv_x (d := d) (i := i) (h4.2.1 i i').2.2.2.1 q14
  have same : x10 = x14 ↔ (5 ≤ (d 12 (24 + wf0 d i k)).toInt ↔ 5 ≤ (d 12 (24 + i)).toInt) := by
    rw [← b3, ← c3]
    constructor
    · intro q; rw [q]
    · intro q
      rcases b1 with u | u
      · rw [u, q.mp u]
      · rcases c1' with w | w
        · have := q.mpr w; rw [u] at this; exact absurd this (by decide)
        · rw [u, w]
  refine pc_ite (fun c2 => hk2 _ ⟨k + 1, ew, by omega, ek4, ?_⟩) (fun c2 => ?_)
  · show WX d (g2 44) (wl d i ++ (wk d i k ++ (if _ then _ else _))) g15
    rw [if_pos (same.mp c2), List.append_nil]; exact hw4
  · have len : (wl d i ++ wk d i k).length < 72 := by
      rw [List.length_append]
      have := wk_len (d := d) (i := i) k
      omega
    have g44 : g15 44 = g2 44 := ek4 44 (by decide) (by omega)
    refine pc_cb (addWay_x h4 h9 hi (by omega) i' len (by rw [g44]; exact hw4)) (fun _ g20 L21 q20 => hk2 _ ⟨k + 1, ew, by omega, fun k a b => (q20.2 k a b).trans (ek4 k a b), ?_⟩)
    show WX d (g2 44) (wl d i ++ (wk d i k ++ (if _ then _ else _))) g20
    rw [if_neg (fun hh => c2 (same.mpr hh)), ← List.append_assoc, ← g44]
    exact q20.1
theorem wy_c {g d : gT} {j i : Nat} (h12 : g 12 = d 12) (h4 : g 4 = d 4) (h3 : g 0 3 = d 0 3) (h04 : g 0 4 = d 0 4) : wy g j i = wy d j i := by
  unfold wy
  rw [h12, h4, h3, h04]
theorem ways_m {cs : Nat → List Int} {n fu : Nat} {d : gT} {L : lT} (hM : MD cs n d) (hr : ∀ i, i < n → 0 ≤ (d 12 (24 + i)).toInt ∧ (d 12 (24 + i)).toInt ≤ 9) : Pc (fX12_ways fu d L) (fun _ g1 _ => ((∀ k, k ≠ 0 → k < 29 → g1 k = d k) ∧ (∀ j, j ≠ 79 → g1 0 j = d 0 j)) ∧ DY cs d n (g1 31) (g1 32) (g1 33) (g1 34) ∧ WY d (g1 32) (wl d n) g1) := by
  have hW := hM.2.1
  have n12 := hM.1.2
  have h8 : ∀ i, i < n → (d 8 i).toInt.toNat ≤ 6 := fun i hi => by have := hM.2.2.1 i hi; omega
  unfold fX12_ways
  refine pc_cb (wk_m hM) (fun _ g2 L3 e2 => pc_st (fun g5 e5 => ?_))
  have k5 : ∀ k, k ≠ 0 → g5 k = g2 k := fun k hk => by rw [e5]; exact funext fun _ => upd2_nk hk
  have o5 : ∀ j, j ≠ 79 → g5 0 j = g2 0 j := fun j hj => by rw [e5, upd2_nj hj]
  unfold fX12_ways_l11
  refine pc_loop (fun v => ∃ i : Nat, v.1.toInt = (i : Int) ∧ i ≤ n ∧ ((∀ k, k ≠ 0 → k < 44 → v.2.1 k = g2 k) ∧ (∀ j, j ≠ 79 → v.2.1 0 j = g2 0 j)) ∧ WY d (g2 32) (wl d i) v.2.1) (fun k11 hk v hv => ?_) ⟨0, rfl, by omega, ⟨fun k a _ => k5 k a, o5⟩, ⟨by show (g5 0 79).toInt = 0; rw [e5, upd2_at]; rfl, fun w p hp => nomatch hp⟩⟩
  obtain ⟨v1, g', L'⟩ := v
  obtain ⟨i, hi, ni, ⟨ek, eo⟩, hw⟩ := hv
  replace hi : v1.toInt = (i : Int) := hi
  replace ek : ∀ k, k ≠ 0 → k < 44 → g' k = g2 k := ek
  replace eo : ∀ j, j ≠ 79 → g' 0 j = g2 0 j := eo
  replace hw : WY d (g2 32) (wl d i) g' := hw
  show Pc (fX12_ways_s11 fu k11 v1 g' L') _
  unfold fX12_ways_s11
  have e01 : (g' 0 1).toInt = (n : Int) := by rw [eo 1 (by decide), e2.2 0 (by omega)]; exact hM.1.1
  refine pc_ite (fun c => pc_some ?_) (fun c => ?_)
  · have c := icc_le e01 hi c
    have em : i = n := by omega
    rw [em] at hw
    refine ⟨⟨fun k a b => (ek k a (by omega)).trans (e2.2 k (by omega)), fun j hj => by rw [eo j hj, e2.2 0 (by omega)]⟩, ?_, ?_⟩
    · rw [ek 31 (by decide) (by omega), ek 32 (by decide) (by omega), ek 33 (by decide) (by omega), ek 34 (by decide) (by omega)]
      exact e2.1
    · rw [ek 32 (by decide) (by omega)]; exact hw
  have c := icc_nle e01 hi c
  have i' : i < n := by omega
  have b8 := hM.2.2.1 i i'
  have ei : v1.toNatClampNeg = i := by rw [nc, hi]; omega
  have e24 : (24 + v1).toNatClampNeg = 24 + i := by rw [nc, ic_addc (m := 24) rfl hi (by omega) (by omega)]; omega
  obtain ⟨N, hN⟩ : ∃ N : Nat, (d 8 i).toInt = (N : Int) := ⟨(d 8 i).toInt.toNat, by omega⟩
  have hNn : (d 8 i).toInt.toNat = N := by omega
  have wln := wl_len h8 i (by omega)
  unfold fX12_ways_l21
  refine pc_loop (fun v => ∃ k : Nat, v.1.toInt = (k : Int) ∧ k ≤ N ∧ ((∀ k, k ≠ 0 → k < 44 → v.2.1 k = g2 k) ∧ (∀ j, j ≠ 79 → v.2.1 0 j = g2 0 j)) ∧ WY d (g2 32) (wl d i ++ wk d i k) v.2.1) (fun k21 hk2 v hv => ?_) ⟨0, rfl, by omega, ⟨ek, eo⟩, by show WY d (g2 32) (wl d i ++ []) g'; rw [List.append_nil]; exact hw⟩
  obtain ⟨v2, g4, L4⟩ := v
  obtain ⟨k, hkk, kN, ⟨ek4, eo4⟩, hw4⟩ := hv
  replace hkk : v2.toInt = (k : Int) := hkk
  replace ek4 : ∀ k, k ≠ 0 → k < 44 → g4 k = g2 k := ek4
  replace eo4 : ∀ j, j ≠ 79 → g4 0 j = g2 0 j := eo4
  replace hw4 : WY d (g2 32) (wl d i ++ wk d i k) g4 := hw4
  have d4 : ∀ k, k ≠ 0 → k < 29 → g4 k = d k := fun k a b => (ek4 k a (by omega)).trans (e2.2 k (by omega))
  show Pc (fX12_ways_s21 fu k11 v1 k21 v2 g4 L4) _
  unfold fX12_ways_s21 fX12_ways_p155
  have e6 : (6 * v1).toInt = 6 * (i : Int) := ic_mulc (m := 6) rfl hi (by omega) (by omega)
  rw [ei, d4 8 (by decide) (by omega)]
  refine pc_ck (fun _ _ => pc_ite (fun c1 => hk _ ⟨i + 1, ?_, by omega, ⟨ek4, eo4⟩, ?_⟩) (fun c1 => ?_))
  · show (v1 + 1).toInt = _
    rw [ic_addc hi (n := 1) rfl (by omega) (by omega)]; omega
  · have c1 := icc_le hN hkk c1
    show WY d (g2 32) (wl d i ++ wk d i (d 8 i).toInt.toNat) g4
    rw [hNn, show N = k by omega]; exact hw4
  have c1 := icc_nle hN hkk c1
  have e7 : (6 * v1 + v2).toNatClampNeg = 6 * i + k := by rw [nc, ic_addc e6 hkk (by omega) (by omega)]; omega
  have ew : (v2 + 1).toInt = ((k + 1 : Nat) : Int) := by rw [ic_addc hkk (n := 1) rfl (by omega) (by omega)]; omega
  have jl : wf0 d i k < i := wf_lt hW i' (by omega)
  have wm := (hW i i').2.2 k (by omega)
  rw [e7, d4 9 (by decide) (by omega), d4 12 (by decide) (by omega), e24]
  refine pc_ck (fun _ _ => pc_lti (fun x8 e8 => ?_))
  have h8' : x8.toInt = ((wf0 d i k : Nat) : Int) := by rw [e8]; unfold wf0; omega
  have e8n : x8.toNatClampNeg = wf0 d i k := by rw [nc, h8']; omega
  have f24 : (24 + x8).toNatClampNeg = 24 + wf0 d i k := by rw [nc, ic_addc (m := 24) rfl h8' (by omega) (by omega)]; omega
  rw [f24, e8n]
  refine pc_ck (fun _ _ => pc_ck (fun _ _ => pc_cb stair_m (fun x9 g10 L11 q9 => ?_)))
  obtain ⟨rfl, q9⟩ := q9
  refine pc_ite (fun c2 => hk2 _ ⟨k + 1, ew, by omega, ⟨ek4, eo4⟩, ?_⟩) (fun c2 => ?_)
  · show WY d (g2 32) (wl d i ++ (wk d i k ++ (if _ then _ else _))) g10
    rw [if_pos (q9.mp c2), List.append_nil]; exact hw4
  have cross : ¬ (5 ≤ (d 12 (24 + wf0 d i k)).toInt ↔ 5 ≤ (d 12 (24 + i)).toInt) := fun hh => c2 (q9.mpr hh)
  have len : (wl d i ++ wk d i k).length < 72 := by
    rw [List.length_append]
    have := wk_len (d := d) (i := i) k
    omega
  have eM : (g10 0 79).toNatClampNeg = (wl d i ++ wk d i k).length := by rw [nc, hw4.1]; omega
  generalize hl : wl d i ++ wk d i k = l at *
  rw [eM]
  refine pc_ck (fun _ _ => pc_st (fun g14 e14 => pc_ck (fun _ _ => ?_)))
  have o14 : ∀ k, k ≠ 44 → g14 k = g10 k := fun k a => by rw [e14]; exact funext fun _ => upd2_nk a
  rw [o14 0 (by decide), eM, o14 32 (by decide)]
  refine pc_ck (fun _ _ => pc_st (fun g15 e15 => ?_))
  have o15 : ∀ k, k ≠ 44 → k ≠ 45 → g15 k = g10 k := fun k a b => by rw [e15, ← o14 k a]; exact funext fun _ => upd2_nk b
  refine pc_cb (way_m (d := g15) (fun _ _ => rfl) h8' hi (by omega) (by omega)) (fun x16 g17 L18 q16 => ?_)
  obtain ⟨rfl, q16⟩ := q16
  have d15 : ∀ k, k ≠ 0 → k < 29 → g17 k = d k := fun k a b => (o15 k (by omega) (by omega)).trans (d4 k a b)
  rw [wy_c (d15 12 (by decide) (by omega)) (d15 4 (by decide) (by omega)) (by rw [o15 0 (by decide) (by decide), eo4 3 (by decide), e2.2 0 (by omega)]) (by rw [o15 0 (by decide) (by decide), eo4 4 (by decide), e2.2 0 (by omega)])] at q16
  rw [o15 0 (by decide) (by decide), eM]
  refine pc_ck (fun _ _ => pc_st (fun g20 e20 => ?_))
  have o20 : ∀ k, k ≠ 44 → k ≠ 45 → k ≠ 46 → g20 k = g10 k := fun k a b c => by rw [e20, ← o15 k a b]; exact funext fun _ => upd2_nk c
  rw [o20 12 (by decide) (by decide) (by decide), d4 12 (by decide) (by omega), o20 0 (by decide) (by decide) (by decide)]
  have fin : ∀ (t0 : Int32) (La : lT), t0 = upv d i → Pc (fX12_ways_p144 fu k11 k21 v1 v2 t0 (g10 0 79) g20 La) (fun _ g1 _ => ((∀ k, k ≠ 0 → k < 29 → g1 k = d k) ∧ (∀ j, j ≠ 79 → g1 0 j = d 0 j)) ∧ DY cs d n (g1 31) (g1 32) (g1 33) (g1 34) ∧ WY d (g1 32) (wl d n) g1) := by
    intro t0 La ht
    unfold fX12_ways_p144 fX12_ways_p155
    rw [eM]
    refine pc_ck (fun _ _ => pc_st (fun g21 e21 => pc_st (fun g22 e22 => hk2 _ ⟨k + 1, ew, by omega, ⟨fun k a b => ?_, fun j hj => ?_⟩, ?_⟩)))
    · show g22 k = g2 k
      rw [e22, ← ek4 k a b, ← o20 k (by omega) (by omega) (by omega), e21]
      exact funext fun _ => by rw [upd2_nk a, upd2_nk (by omega)]
    · show g22 0 j = g2 0 j
      rw [e22, upd2_nj hj, e21, upd2_nk (by decide), o20 0 (by decide) (by decide) (by decide)]
      exact eo4 j hj
    · show WY d (g2 32) (wl d i ++ (wk d i k ++ (if _ then _ else _))) g22
      rw [if_neg cross, ← List.append_assoc, hl]
      refine ⟨?_, fun w p hp => ?_⟩
      · rw [e22, upd2_at, e21, upd2_nk (by decide), o20 0 (by decide) (by decide) (by decide), ic_addc hw4.1 (n := 1) rfl (by omega) (by omega), List.length_append]
        show _ = ((l.length + 1 : Nat) : Int)
        omega
      · have z44 : ∀ w, g22 44 w = upd2 g10 44 l.length x8 44 w := fun w => by
          rw [e22, upd2_nk (by decide), e21, upd2_nk (by decide), e20, upd2_nk (by decide), e15, upd2_nk (by decide), e14]
        have z45 : ∀ w, g22 45 w = upd2 g10 45 l.length (g10 32 (wf0 d i k)) 45 w := fun w => by
          rw [e22, upd2_nk (by decide), e21, upd2_nk (by decide), e20, upd2_nk (by decide), e15]
          by_cases c : w = l.length
          · rw [c, upd2_at, upd2_at]
          · rw [upd2_nj c, upd2_nj c, o14 45 (by decide)]
        have z46 : ∀ w, g22 46 w = upd2 g10 46 l.length x16 46 w := fun w => by
          rw [e22, upd2_nk (by decide), e21, upd2_nk (by decide), e20]
          by_cases c : w = l.length
          · rw [c, upd2_at, upd2_at]
          · rw [upd2_nj c, upd2_nj c, o15 46 (by decide) (by decide)]
        have z47 : ∀ w, g22 47 w = upd2 g10 47 l.length t0 47 w := fun w => by
          rw [e22, upd2_nk (by decide), e21]
          by_cases c : w = l.length
          · rw [c, upd2_at, upd2_at]
          · rw [upd2_nj c, upd2_nj c, o20 47 (by decide) (by decide) (by decide)]
        rw [z44, z45, z46, z47]
        rcases ap_1 hp with ⟨c, hq⟩ | ⟨c, hq⟩
        · have ne : w ≠ l.length := by omega
          rw [upd2_nj ne, upd2_nj ne, upd2_nj ne, upd2_nj ne]
          exact hw4.2 w p hq
        · rw [c, hq, upd2_at, upd2_at, upd2_at, upd2_at]
          exact ⟨h8', by rw [ek4 32 (by decide) (by omega)], q16, ht⟩
  have ri := hr i i'
  have rj := hr (wf0 d i k) (by omega)
  refine pc_ck (fun _ _ => pc_ck (fun _ _ => pc_ite (fun c3 => fin _ _ ?_) (fun c3 => fin _ _ ?_)))
  · have c3 := ic_le.mp c3
    unfold upv
    rw [if_neg (fun hh => cross ⟨fun _ => hh, fun _ => by omega⟩)]
  · have c3 := icc_nle (m := (d 12 (24 + i)).toInt) (n := (d 12 (24 + wf0 d i k)).toInt) rfl rfl c3
    unfold upv
    rw [if_pos (Classical.byContradiction (fun hh => cross ⟨fun q => absurd (by omega) hh, fun q => absurd q hh⟩))]
end
section
/-! ===== term answers alike ===== -/
theorem ld_f {cs : Nat → List Int} {d e : gT} {bg en ru by_ : Nat → Int32} {i : Nat} (h0 : ∀ j, j = 3 ∨ j = 4 ∨ j = 52 ∨ j = 61 → e 0 j = d 0 j) (hs : stb (e 0 60) i = 1 ↔ stb (d 0 60) i = 1) (h1 : e 1 i = d 1 i) (h2 : e 2 i = d 2 i) (h3 : e 3 = d 3) (h4 : e 4 = d 4) (h5 : e 5 = d 5) (h6 : e 6 = d 6) (h8 : e 8 = d 8) (h9 : e 9 = d 9) (h12 : e 12 = d 12) (h : LD cs d bg en ru by_ i) : LD cs e bg en ru by_ i := by
  have z3 := h0 3 (Or.inl rfl)
  have z4 := h0 4 (Or.inr (Or.inl rfl))
  have z52 := h0 52 (Or.inr (Or.inr (Or.inl rfl)))
  have z61 := h0 61 (Or.inr (Or.inr (Or.inr rfl)))
  have hc : cmg e = cmg d := by
    funext en i k
    unfold cmg wf0 wy
    rw [z3, z4, h4, h9, h12]
  have ht : ∀ b, tl e b i = tl d b i := fun b => by
    funext j
    match j with
    | 0 => show e 12 i = d 12 i; rw [h12]
    | 1 => show b - e 1 i = b - d 1 i; rw [h1]
    | 2 => rfl
    | 3 => show e 12 (24 + i) = d 12 (24 + i); rw [h12]
    | 4 => show e 4 i = d 4 i; rw [h4]
    | 5 => rfl
    | j + 6 => rfl
  have ho : ∀ b, ov cs e i b = ov cs d i b := fun b => by
    rw [ov_e, ov_e]
    unfold gv
    rw [z61, z52, h12, ht]
    by_cases c : stb (d 0 60) i = 1
    · rw [if_pos c, if_pos (hs.mpr c)]
    · rw [if_neg c, if_neg (fun q => c (hs.mp q))]
  unfold LD LB FC
  rw [hc, ho, h1, h2, h3, h5, h6, h8, h9, h12]
  exact h
/-- some run over, some don't -/
def rn0 (d : gT) (m : Int32) : gT := upd2 d 0 60 m
theorem rn0_k {d : gT} {m : Int32} {k : Nat} (h : k ≠ 0) : rn0 d m k = d k := funext fun _ => by unfold rn0; rw [upd2_nk h]
theorem rn0_j {d : gT} {m : Int32} {j : Nat} (h : j ≠ 60) : rn0 d m 0 j = d 0 j := by unfold rn0; rw [upd2_nj h]
theorem rn0_60 {d : gT} {m : Int32} : rn0 d m 0 60 = m := by unfold rn0; rw [upd2_at]
theorem wf_rn {n : Nat} {d : gT} {m : Int32} (hW : WF n d) : WF n (rn0 d m) := wf_e hW (rn0_k (by decide)) (rn0_k (by decide)) (rn0_k (by decide)) (rn0_k (by decide))
theorem ld_rn {cs : Nat → List Int} {d : gT} {m m' : Int32} {bg en ru by_ : Nat → Int32} {i : Nat} (hs : stb m' i = 1 ↔ stb m i = 1) (h : LD cs (rn0 d m) bg en ru by_ i) : LD cs (rn0 d m') bg en ru by_ i := by
  have kk : ∀ k, k ≠ 0 → rn0 d m' k = rn0 d m k := fun k a => by rw [rn0_k a, rn0_k a]
  exact ld_f (fun j hj => by rw [rn0_j (by omega), rn0_j (by omega)]) (by rw [rn0_60, rn0_60]; exact hs) (by rw [kk 1 (by decide)]) (by rw [kk 2 (by decide)]) (kk 3 (by decide)) (kk 4 (by decide)) (kk 5 (by decide)) (kk 6 (by decide)) (kk 8 (by decide)) (kk 9 (by decide)) (kk 12 (by decide)) h
theorem DC.run {cs : Nat → List Int} {n : Nat} {x m : Int32} {g d : gT} (h : DC cs n g d) (hx : ∀ i, i < n → (stb x i = 0 ↔ stb m i = 1)) : DC cs n (upd2 g 8 8 x) (rn0 d m) := by
  obtain ⟨a1, a3, a4, a5, a6, a7, a8, a9, a10⟩ := h
  have ek : ∀ k, k ≠ 8 → upd2 g 8 8 x k = g k := fun k hk => funext fun _ => upd2_nk hk
  refine ⟨by rw [ek 1 (by decide)]; exact a1, fun i hi => ⟨(a3 i hi).1.c (ek _ (by omega)) (ek _ (by omega)) (fun k x _ => rn0_k (by omega)), (a3 i hi).2.c (ek _ (by decide)) (ek _ (by decide)) (ek _ (by decide)) (ek _ (by decide)) (rn0_k (by decide))⟩, ?_, wf_rn a5, ?_, ?_, ?_, ?_, ?_⟩
  · rw [ek 1 (by decide), rn0_j (by decide), rn0_j (by decide)]; exact a4
  · rw [rn0_k (by decide), rn0_k (by decide)]; exact a6
  · rw [ek 6 (by decide), ek 3 (by decide), rn0_j (by decide)]; exact a7
  · rw [ek 3 (by decide), ek 20 (by decide), ek 19 (by decide)]; exact a8
  · rw [upd2_at, rn0_60]; exact hx
  · rw [upd2_nj (by decide), rn0_j (by decide)]; exact a10
theorem i32_nle {a b : Int32} (h : a < b) : ¬ b ≤ a := fun hh => by
  have := ic_lt.mp h
  have := ic_le.mp hh
  omega
theorem i32_nlt {a b : Int32} (h : ¬ a < b) : b ≤ a := ic_le.mpr (icc_nlt (m := a.toInt) (n := b.toInt) rfl rfl h)
/-- the draws -/
def dr (s : Int32) : Int32 := s * 1103515245 + 12345
def dv (s : Int32) : Int32 := ((s >>> ((16 : Int32) &&& (31 : Int32))) &&& (32767 : Int32)) - ((s >>> ((16 : Int32) &&& (31 : Int32))) &&& (32767 : Int32)) / 10 * 10
theorem b15 : ∀ i : Nat, i < 32 → (32767#32).getLsbD i = decide (i < 15) := by decide
theorem sh16 {s : Int32} : (Int32.toUInt32 s >>> (Int32.toUInt32 16 &&& Int32.toUInt32 31)).toInt32 &&& 32767 = (s >>> ((16 : Int32) &&& (31 : Int32))) &&& (32767 : Int32) := by
  refine Int32.toBitVec_inj.mp ?_
  rw [Int32.toBitVec_and, Int32.toBitVec_and]
  have l : (Int32.toUInt32 s >>> (Int32.toUInt32 16 &&& Int32.toUInt32 31)).toInt32.toBitVec = s.toBitVec >>> 16 := rfl
  have r : (s >>> ((16 : Int32) &&& 31)).toBitVec = s.toBitVec.sshiftRight 16 := rfl
  have k : (32767 : Int32).toBitVec = 32767#32 := rfl
  rw [l, r, k]
  refine BitVec.eq_of_getLsbD_eq (fun i hi => ?_)
  rw [BitVec.getLsbD_and, BitVec.getLsbD_and, BitVec.getLsbD_ushiftRight, BitVec.getLsbD_sshiftRight, b15 i hi]
  by_cases c : i < 15
  · rw [if_pos (show 16 + i < 32 by omega), decide_eq_false (show ¬ 32 ≤ i by omega)]
    rfl
  · rw [decide_eq_false c, Bool.and_false, Bool.and_false]
/-- the seed when i lessons have drawn; who runs over -/
def sdd (d : gT) (s : Int32) : Nat → Int32
  | 0 => s
  | i + 1 => if d 7 i = 10 then sdd d s i else dr (sdd d s i)
def rns (d : gT) (s : Int32) (i : Nat) : Prop := d 7 i = 10 ∨ ¬ d 7 i ≤ dv (dr (sdd d s i))
theorem ten_x {fu : Nat} {g : gT} {L : lT} : Pc (fX0_drawOfTen_11 fu g L) (fun x g1 _ => g1 = upd2 g 11 4 (dr (g 11 4)) ∧ x = dv (dr (g 11 4))) := by
  unfold fX0_drawOfTen_11
  refine pc_st (fun g1 e1 => pc_cnz (pc_some ⟨e1, ?_⟩))
  rw [sh16, e1, upd2_at]; rfl
theorem draw_x {cs : Nat → List Int} {n fu : Nat} {g d : gT} {L : lT} {s : Int32} (h : DC cs n g d) (h7 : ∀ i, i < n → g (57 + i) 12 = d 7 i) (hs : g 11 4 = s) : Pc (fX0_drawRunning_11 fu g L) (fun x g1 _ => (∀ k, k ≠ 11 → g1 k = g k) ∧ g1 11 4 = sdd d s n ∧ ∀ o, o < n → (tbi x o = true ↔ rns d s o)) := by
  have hn := h.1
  have n12 := h.1.2
  unfold fX0_drawRunning_11 fX0_drawRunning_11_l4
  refine pc_loop (fun v => ∃ i : Nat, v.2.1.toInt = (i : Int) ∧ i ≤ n ∧ (∀ k, k ≠ 11 → v.2.2.1 k = g k) ∧ v.2.2.1 11 4 = sdd d s i ∧ ∀ o, o < n → (tbi v.1 o = true ↔ (o < i ∧ rns d s o))) (fun k4 hk v hv => ?_) ⟨0, rfl, by omega, fun _ _ => rfl, hs, fun o ho => ⟨fun q => by
    have q : tbi 0 o = true := q
    rw [tb_0] at q; exact absurd q (by decide), fun q => absurd q.1 (Nat.not_lt_zero _)⟩⟩
  obtain ⟨v1, v2, g', L'⟩ := v
  obtain ⟨i, hi, ni, ek, es, hb⟩ := hv
  replace hi : v2.toInt = (i : Int) := hi
  replace ek : ∀ k, k ≠ 11 → g' k = g k := ek
  replace es : g' 11 4 = sdd d s i := es
  replace hb : ∀ o, o < n → (tbi v1 o = true ↔ (o < i ∧ rns d s o)) := hb
  show Pc (fX0_drawRunning_11_s4 fu k4 v1 v2 g' L') _
  unfold fX0_drawRunning_11_s4 fX0_drawRunning_11_p48 fX0_drawRunning_11_p54
  have e12 : (g' 1 2).toInt = (n : Int) := by rw [ek 1 (by decide)]; exact hn.1
  have ei : v2.toNatClampNeg = i := by rw [nc, hi]; omega
  have vi : v2 = Int32.ofInt (i : Int) := by rw [← hi]; exact io_i.symm
  refine pc_ite (fun c => pc_some ⟨ek, ?_, fun o ho => ?_⟩) (fun c => ?_)
  · have c := icc_le e12 hi c
    rw [es, show i = n by omega]
  · have c := icc_le e12 hi c
    exact (hb o ho).trans ⟨fun q => q.2, fun q => ⟨by omega, q⟩⟩
  have c := icc_nle e12 hi c
  have ew : (v2 + 1).toInt = ((i + 1 : Nat) : Int) := by rw [ic_addc hi (n := 1) rfl (by omega) (by omega)]; omega
  rw [ei, show i % 12 = i by omega]
  refine pc_ck (fun _ _ => pc_ltn (fun q eq => ?_))
  subst eq
  refine pc_lti (fun x3 e3 => ?_)
  have d3 : x3 = d 7 i := by rw [e3, ek (57 + i) (by omega)]; exact h7 i (by omega)
  have bit : rns d s i → ∀ o, o < n → (tbi (v1 ||| ((1 : Int32) <<< (v2 &&& 31))) o = true ↔ (o < i + 1 ∧ rns d s o)) := fun hr o ho => by
    rw [tb_or, vi, tb_s i (by omega) o (by omega)]
    by_cases q : i = o
    · rw [decide_eq_true q, Bool.or_true]
      exact ⟨fun _ => ⟨by omega, by rw [← q]; exact hr⟩, fun _ => rfl⟩
    · rw [decide_eq_false q, Bool.or_false]
      exact (hb o ho).trans ⟨fun w => ⟨by omega, w.2⟩, fun w => ⟨by omega, w.2⟩⟩
  have nob : ¬ rns d s i → ∀ o, o < n → (tbi v1 o = true ↔ (o < i + 1 ∧ rns d s o)) := fun hr o ho =>
    (hb o ho).trans ⟨fun w => ⟨by omega, w.2⟩, fun w => ⟨by
      by_cases q : o = i
      · rw [q] at w; exact absurd w.2 hr
      · omega, w.2⟩⟩
  refine pc_ite (fun c1 => pc_lti (fun x4 e4 => hk _ ⟨i + 1, ew, by omega, ek, ?_, ?_⟩)) (fun c1 => pc_cb ten_x (fun x6 g7 L8 q => ?_))
  · show g' 11 4 = if d 7 i = 10 then _ else _
    rw [if_pos (by rw [← d3]; exact c1)]; exact es
  · show ∀ o, o < n → (tbi x4 o = true ↔ _)
    rw [e4]; exact bit (Or.inl (by rw [← d3]; exact c1))
  · obtain ⟨q1, q2⟩ := q
    rw [es] at q1 q2
    have c1' : ¬ d 7 i = 10 := by rw [← d3]; exact c1
    have k7 : ∀ k, k ≠ 11 → g7 k = g k := fun k hk => by rw [q1, ← ek k hk]; exact funext fun _ => upd2_nk hk
    have s7 : g7 11 4 = sdd d s (i + 1) := by
      show g7 11 4 = if d 7 i = 10 then _ else _
      rw [if_neg c1', q1, upd2_at]
    rw [d3, q2]
    refine pc_ite (fun c2 => hk _ ⟨i + 1, ew, by omega, k7, s7, nob (fun hr => ?_)⟩) (fun c2 => pc_lti (fun x4 e4 => hk _ ⟨i + 1, ew, by omega, k7, s7, ?_⟩))
    · rcases hr with hr | hr
      · exact c1' hr
      · exact hr c2
    · show ∀ o, o < n → (tbi x4 o = true ↔ _)
      rw [e4]; exact bit (Or.inr c2)
/-- a day on which just these run over: what is lost, how late l is -/
def TD (cs : Nat → List Int) (n : Nat) (d : gT) (R : Nat → Prop) (l : Nat) (v t : Int32) : Prop := ∃ m bg en ru by_, (∀ i, i < n → (stb m i = 1 ↔ ¬ R i)) ∧ DY cs (rn0 d m) n bg en ru by_ ∧ v = fo (fLost d en) n ∧ t = en l - d 2 l
theorem TD.u {cs : Nat → List Int} {n l : Nat} {d : gT} {R : Nat → Prop} {v t v' t' : Int32} (hW : WF n d) (ln : l < n) (h : TD cs n d R l v t) (h' : TD cs n d R l v' t') : v = v' ∧ t = t' := by
  obtain ⟨m1, b1, e1, r1, y1, k1, h1, u1, w1⟩ := h
  obtain ⟨m2, b2, e2, r2, y2, k2, h2, u2, w2⟩ := h'
  have h2' : DY cs (rn0 d m1) n b2 e2 r2 y2 := fun i hi => ld_rn ((k1 i hi).trans (k2 i hi).symm) (h2 i hi)
  have u := DY.u (wf_rn hW) h1 h2'
  refine ⟨?_, by rw [w1, w2, (u l ln).2.1]⟩
  rw [u1, u2]
  exact fo_c (fun i hi a => by unfold fLost; rw [(u i hi).2.1])
/-- so many days: together, at most, on how many late -/
def TT (cs : Nat → List Int) (n : Nat) (d : gT) (l : Nat) (s : Int32) : Nat → Int32 → Int32 → Int32 → Int32 → Prop
  | 0, z, a, b, c => z = s ∧ a = 0 ∧ b = 0 ∧ c = 0
  | k + 1, z, a, b, c => ∃ z' a' b' c' v t, TT cs n d l s k z' a' b' c' ∧ TD cs n d (rns d z') l v t ∧ z = sdd d z' n ∧ a = a' + v ∧ b = (if b' < v then v else b') ∧ c = c' + (if t ≤ 0 then 0 else 1)
theorem TT.u {cs : Nat → List Int} {n l : Nat} {d : gT} {s : Int32} (hW : WF n d) (ln : l < n) : ∀ (k : Nat) {z a b c z' a' b' c' : Int32}, TT cs n d l s k z a b c → TT cs n d l s k z' a' b' c' → z = z' ∧ a = a' ∧ b = b' ∧ c = c' := by
  intro k
  induction k with
  | zero =>
    intro z a b c z' a' b' c' h h'
    obtain ⟨x1, x2, x3, x4⟩ := h
    obtain ⟨y1, y2, y3, y4⟩ := h'
    exact ⟨by rw [x1, y1], by rw [x2, y2], by rw [x3, y3], by rw [x4, y4]⟩
  | succ k ih =>
    intro z a b c z' a' b' c' h h'
    obtain ⟨z1, a1, b1, c1, v1, t1, h1, h2, x1, x2, x3, x4⟩ := h
    obtain ⟨z2, a2, b2, c2, v2, t2, g1, g2, y1, y2, y3, y4⟩ := h'
    obtain ⟨rfl, rfl, rfl, rfl⟩ := ih h1 g1
    obtain ⟨rfl, rfl⟩ := TD.u hW ln h2 g2
    exact ⟨by rw [x1, y1], by rw [x2, y2], by rw [x3, y3], by rw [x4, y4]⟩
theorem term_x {cs : Nat → List Int} {n l D fu : Nat} {p1 p2 p3 p4 : Int32} {g d : gT} {L : lT} (h : DC cs n g d) (h7 : ∀ i, i < n → g (57 + i) 12 = d 7 i) (hl : p3.toInt = (l : Int)) (ln : l < n) (hD : p2.toInt = (D : Int)) (d60 : D ≤ 60) : Pc (fX0_ofTerm_11 fu p1 p2 p3 p4 g L) (fun x _ _ => ∃ z a b c, TT cs n d l p1 D z a b c ∧ x = if p4 = 0 then a else if p4 = 1 then b else c) := by
  have hW := h.2.2.2.1
  have n12 := h.1.2
  unfold fX0_ofTerm_11
  refine pc_st (fun g1 e1 => ?_)
  have k1 : ∀ k, k ≠ 11 → g1 k = g k := fun k hk => by rw [e1]; exact funext fun _ => upd2_nk hk
  unfold fX0_ofTerm_11_l17
  refine pc_loop (fun v => ∃ k : Nat, v.2.2.2.1.toInt = (k : Int) ∧ k ≤ D ∧ (∀ k, k ≠ 8 → k ≠ 11 → k ≠ 21 → (k < 43 ∨ 48 < k) → v.2.2.2.2.1 k = g k) ∧ (∀ j, j ≠ 8 → v.2.2.2.2.1 8 j = g 8 j) ∧ TT cs n d l p1 k (v.2.2.2.2.1 11 4) v.1 v.2.1 v.2.2.1) (fun k17 hk v hv => ?_) ⟨0, rfl, by omega, fun k _ a _ _ => k1 k a, fun j _ => by show g1 8 j = _; rw [k1 8 (by decide)], ⟨by show g1 11 4 = p1; rw [e1, upd2_at], rfl, rfl, rfl⟩⟩
  obtain ⟨v5, v6, v7, v8, g', L'⟩ := v
  obtain ⟨k, hkk, kD, ek, e8, ht⟩ := hv
  replace hkk : v8.toInt = (k : Int) := hkk
  replace ek : ∀ k, k ≠ 8 → k ≠ 11 → k ≠ 21 → (k < 43 ∨ 48 < k) → g' k = g k := ek
  replace e8 : ∀ j, j ≠ 8 → g' 8 j = g 8 j := e8
  replace ht : TT cs n d l p1 k (g' 11 4) v5 v6 v7 := ht
  show Pc (fX0_ofTerm_11_s17 fu p2 p3 p4 k17 v5 v6 v7 v8 g' L') _
  unfold fX0_ofTerm_11_s17 fX0_ofTerm_11_p116
  refine pc_ite (fun c => pc_st (fun g3 e3 => ?_)) (fun c => ?_)
  · have c := icc_le hD hkk c
    rw [show k = D by omega] at ht
    refine pc_ite (fun c0 => pc_some ⟨_, _, _, _, ht, ?_⟩) (fun c0 => pc_ite (fun c1 => pc_some ⟨_, _, _, _, ht, ?_⟩) (fun c1 => pc_some ⟨_, _, _, _, ht, ?_⟩))
    · rw [if_pos c0]
    · rw [if_neg c0, if_pos c1]
    · rw [if_neg c0, if_neg c1]
  have c := icc_nle hD hkk c
  have ew : (v8 + 1).toInt = ((k + 1 : Nat) : Int) := by rw [ic_addc hkk (n := 1) rfl (by omega) (by omega)]; omega
  -- the base: who runs over aside, all is as it was
  have base : ∀ (x m : Int32) (gz : gT), (∀ k, k ≠ 8 → k ≠ 11 → k ≠ 21 → (k < 43 ∨ 48 < k) → gz k = g k) → (∀ j, j ≠ 8 → gz 8 j = g 8 j) → gz 8 8 = x → (∀ i, i < n → (stb x i = 0 ↔ stb m i = 1)) → DC cs n gz (rn0 d m) := fun x m gz a b c e => (h.run e).c3 (fun k q => by
    by_cases k8 : k = 8
    · subst k8
      funext j
      by_cases j8 : j = 8
      · rw [j8, c, upd2_at]
      · rw [b j j8, upd2_nj j8]
    · rw [a k k8 (by omega) (by omega) (by omega)]
      exact funext fun _ => (upd2_nk k8).symm)
  have hD0 : DC cs n g' (rn0 d (g' 8 8 ^^^ -1)) := base (g' 8 8) _ g' ek e8 rfl (fun i hi => by
    rw [stb_0i (by omega), stb_1i (by omega), tb_n1x (by omega)]
    cases tbi (g' 8 8) i <;> decide)
  refine pc_cb (draw_x (d := rn0 d (g' 8 8 ^^^ -1)) hD0 (fun i hi => by rw [ek (57 + i) (by omega) (by omega) (by omega) (by omega), rn0_k (by decide)]; exact h7 i hi) rfl) (fun x6 g7 L8 q => ?_)
  obtain ⟨q1, q2, q3⟩ := q
  have es : ∀ i, sdd (rn0 d (g' 8 8 ^^^ -1)) (g' 11 4) i = sdd d (g' 11 4) i := fun i => by
    induction i with
    | zero => rfl
    | succ i ih =>
      show (if rn0 d (g' 8 8 ^^^ -1) 7 i = 10 then _ else _) = if d 7 i = 10 then _ else _
      rw [rn0_k (by decide), ih]
  have q3' : ∀ o, o < n → (tbi x6 o = true ↔ rns d (g' 11 4) o) := fun o ho => by
    have a := q3 o ho
    unfold rns at a ⊢
    rw [rn0_k (by decide), es] at a
    exact a
  rw [es] at q2
  refine pc_st (fun g10 e10 => ?_)
  have k10 : ∀ k, k ≠ 8 → k ≠ 11 → k ≠ 21 → (k < 43 ∨ 48 < k) → g10 k = g k := fun k a b c e => by
    rw [e10, ← ek k a b c e, ← q1 k b]; exact funext fun _ => upd2_nk a
  have j10 : ∀ j, j ≠ 8 → g10 8 j = g 8 j := fun j hj => by rw [e10, upd2_nj hj, q1 8 (by decide)]; exact e8 j hj
  have x10 : g10 8 8 = x6 := by rw [e10, upd2_at]
  have mk : ∀ i, i < n → (stb (x6 ^^^ -1) i = 1 ↔ ¬ rns d (g' 11 4) i) := fun i hi => by
    rw [stb_1i (by omega), tb_n1x (by omega), ← q3' i hi]
    cases tbi x6 i <;> decide
  have hD10 : DC cs n g10 (rn0 d (x6 ^^^ -1)) := base x6 _ g10 k10 j10 x10 (fun i hi => by
    rw [stb_0i (by omega), stb_1i (by omega), tb_n1x (by omega)]
    cases tbi x6 i <;> decide)
  refine pc_cb (lf_x hD10 (f := 0) rfl (Nat.zero_le _)) (fun x11 g12 L13 e12 => ?_)
  obtain ⟨⟨r1, -, r3⟩, u11⟩ := e12
  refine pc_lti (fun x15 e15 => pc_lti (fun x16 e16 => pc_cb (late_x (hD10.c r3) hl ln) (fun x17 g18 L19 e17 => ?_)))
  obtain ⟨rfl, e17⟩ := e17
  rw [rn0_k (by decide)] at e17
  have fl : fLost (rn0 d (x6 ^^^ -1)) (g18 44) = fLost d (g18 44) := by
    funext i a
    unfold fLost
    rw [rn0_k (by decide), rn0_k (by decide)]
  rw [fl] at u11
  have td : TD cs n d (rns d (g' 11 4)) l x11 x17 := ⟨_, _, _, _, _, mk, fun i hi => r1 i (Nat.zero_le _) hi, u11, e17⟩
  have s18 : g18 11 4 = sdd d (g' 11 4) n := by rw [r3 11 (by decide) (by omega), e10, upd2_nk (by decide)]; exact q2
  have fin : ∀ (t : Int32) (La : lT), t = (if x17 ≤ 0 then 0 else 1) → Pc (fX0_ofTerm_11_p78 fu k17 p2 p3 p4 x15 x16 v8 t v7 g18 La) (fun x _ _ => ∃ z a b c, TT cs n d l p1 D z a b c ∧ x = if p4 = 0 then a else if p4 = 1 then b else c) := by
    intro t La ht'
    unfold fX0_ofTerm_11_p78
    refine pc_lti (fun x21 e21 => hk _ ⟨k + 1, ew, by omega, fun k a b c e => ?_, fun j hj => ?_, ?_⟩)
    · show g18 k = g k
      rw [r3 k c e, k10 k a b c e]
    · show g18 8 j = g 8 j
      rw [r3 8 (by decide) (by omega), j10 j hj]
    · exact ⟨_, _, _, _, _, _, ht, td, s18, e15, e16, by rw [← ht']; exact e21⟩
  refine pc_ite (fun c2 => fin _ _ ?_) (fun c2 => fin _ _ ?_)
  · rw [if_pos c2]
  · rw [if_neg c2]
theorem draw_m {fu : Nat} {g : gT} {L : lT} : Pc (fX12_draw fu 10 g L) (fun x g1 _ => g1 = upd2 g 0 80 (dr (g 0 80)) ∧ x = dv (dr (g 0 80))) := by
  unfold fX12_draw
  refine pc_st (fun g1 e1 => pc_cnz (pc_some ⟨e1, ?_⟩))
  rw [e1, upd2_at]; rfl
theorem term_m {cs : Nat → List Int} {n l D fu : Nat} {p1 p2 p3 p4 : Int32} {g d : gT} {L : lT} (hM : MD cs n d) (hl : p3.toInt = (l : Int)) (ln : l < n) (hD : p2.toInt = (D : Int)) (d60 : D ≤ 60) (ek : ∀ k, k ≠ 0 → k < 29 → g k = d k) (e0 : ∀ j, j ≠ 60 → j ≠ 80 → g 0 j = d 0 j) (e80 : g 0 80 = p1) : Pc (fX12_term_l57 fu p2 p3 p4 0 0 0 0 g L) (fun x g1 _ => g1 0 0 = d 0 0 ∧ ∃ z a b c, TT cs n d l p1 D z a b c ∧ x = if p4 = 0 then a else if p4 = 1 then b else c) := by
  have hW := hM.2.1
  have n12 := hM.1.2
  unfold fX12_term_l57
  refine pc_loop (fun v => ∃ k : Nat, v.2.2.2.1.toInt = (k : Int) ∧ k ≤ D ∧ (∀ k, k ≠ 0 → k < 29 → v.2.2.2.2.1 k = d k) ∧ (∀ j, j ≠ 60 → j ≠ 80 → v.2.2.2.2.1 0 j = d 0 j) ∧ TT cs n d l p1 k (v.2.2.2.2.1 0 80) v.1 v.2.1 v.2.2.1) (fun k57 hk v hv => ?_) ⟨0, rfl, by omega, ek, e0, ⟨e80, rfl, rfl, rfl⟩⟩
  obtain ⟨v5, v6, v7, v8, g', L'⟩ := v
  obtain ⟨k, hkk, kD, ek, e0, ht⟩ := hv
  replace hkk : v8.toInt = (k : Int) := hkk
  replace ek : ∀ k, k ≠ 0 → k < 29 → g' k = d k := ek
  replace e0 : ∀ j, j ≠ 60 → j ≠ 80 → g' 0 j = d 0 j := e0
  replace ht : TT cs n d l p1 k (g' 0 80) v5 v6 v7 := ht
  show Pc (fX12_term_s57 fu p2 p3 p4 k57 v5 v6 v7 v8 g' L') _
  unfold fX12_term_s57 fX12_term_p208
  refine pc_ite (fun c => pc_st (fun g23 e23 => ?_)) (fun c => pc_st (fun g26 e26 => ?_))
  · have c := icc_le hD hkk c
    rw [show k = D by omega] at ht
    have z : g23 0 0 = d 0 0 := by rw [e23, upd2_nj (by decide)]; exact e0 0 (by decide) (by decide)
    refine pc_ite (fun c0 => pc_some ⟨z, _, _, _, _, ht, ?_⟩) (fun c0 => pc_ite (fun c1 => pc_some ⟨z, _, _, _, _, ht, ?_⟩) (fun c1 => pc_some ⟨z, _, _, _, _, ht, ?_⟩))
    · rw [if_pos c0]
    · rw [if_neg c0, if_pos c1]
    · rw [if_neg c0, if_neg c1]
  have c := icc_nle hD hkk c
  have ew : (v8 + 1).toInt = ((k + 1 : Nat) : Int) := by rw [ic_addc hkk (n := 1) rfl (by omega) (by omega)]; omega
  have k26 : ∀ k, k ≠ 0 → k < 29 → g26 k = d k := fun k a b => by rw [e26, ← ek k a b]; exact funext fun _ => upd2_nk a
  have j26 : ∀ j, j ≠ 60 → j ≠ 80 → g26 0 j = d 0 j := fun j a b => by rw [e26, upd2_nj a]; exact e0 j a b
  have s26 : g26 0 80 = g' 0 80 := by rw [e26, upd2_nj (by decide)]
  have z26 : g26 0 60 = 0 := by rw [e26, upd2_at]
  unfold fX12_term_l71
  refine pc_loop (fun v => ∃ i : Nat, v.1.toInt = (i : Int) ∧ i ≤ n ∧ (∀ k, k ≠ 0 → k < 29 → v.2.1 k = d k) ∧ (∀ j, j ≠ 60 → j ≠ 80 → v.2.1 0 j = d 0 j) ∧ v.2.1 0 80 = sdd d (g' 0 80) i ∧ ∀ o, o < n → (tbi (v.2.1 0 60) o = true ↔ (o < i ∧ ¬ rns d (g' 0 80) o))) (fun k71 hk2 v hv => ?_) ⟨0, rfl, by omega, k26, j26, s26, fun o ho => ⟨fun q => by
    have q : tbi (g26 0 60) o = true := q
    rw [z26, tb_0] at q; exact absurd q (by decide), fun q => absurd q.1 (Nat.not_lt_zero _)⟩⟩
  obtain ⟨v9, g4, L4⟩ := v
  obtain ⟨i, hi, ni, ek4, e04, es, hb⟩ := hv
  replace hi : v9.toInt = (i : Int) := hi
  replace ek4 : ∀ k, k ≠ 0 → k < 29 → g4 k = d k := ek4
  replace e04 : ∀ j, j ≠ 60 → j ≠ 80 → g4 0 j = d 0 j := e04
  replace es : g4 0 80 = sdd d (g' 0 80) i := es
  replace hb : ∀ o, o < n → (tbi (g4 0 60) o = true ↔ (o < i ∧ ¬ rns d (g' 0 80) o)) := hb
  show Pc (fX12_term_s71 fu k57 p2 p3 p4 v5 v6 v7 v8 k71 v9 g4 L4) _
  unfold fX12_term_s71
  have e01 : (g4 0 1).toInt = (n : Int) := by rw [e04 1 (by decide) (by decide)]; exact hM.1.1
  have ei : v9.toNatClampNeg = i := by rw [nc, hi]; omega
  have vi : v9 = Int32.ofInt (i : Int) := by rw [← hi]; exact io_i.symm
  refine pc_ite (fun c1 => ?_) (fun c1 => ?_)
  · have c1 := icc_le e01 hi c1
    have em : i = n := by omega
    rw [em] at es
    have hM4 : MD cs n g4 := by
      unfold MD WF
      rw [ek4 5 (by decide) (by omega), ek4 6 (by decide) (by omega), ek4 8 (by decide) (by omega), ek4 9 (by decide) (by omega), ek4 10 (by decide) (by omega), ek4 11 (by decide) (by omega), e04 1 (by decide) (by decide), e04 52 (by decide) (by decide)]
      exact hM
    have ldc : ∀ bg en ru by_, ∀ i, i < n → LD cs g4 bg en ru by_ i → LD cs (rn0 d (g4 0 60)) bg en ru by_ i := fun bg en ru by_ i hi hL => ld_f (fun j hj => by rw [rn0_j (by omega), e04 j (by omega) (by omega)]) (by rw [rn0_60]) (by rw [rn0_k (by decide), ek4 1 (by decide) (by omega)]) (by rw [rn0_k (by decide), ek4 2 (by decide) (by omega)]) (by rw [rn0_k (by decide), ek4 3 (by decide) (by omega)]) (by rw [rn0_k (by decide), ek4 4 (by decide) (by omega)]) (by rw [rn0_k (by decide), ek4 5 (by decide) (by omega)]) (by rw [rn0_k (by decide), ek4 6 (by decide) (by omega)]) (by rw [rn0_k (by decide), ek4 8 (by decide) (by omega)]) (by rw [rn0_k (by decide), ek4 9 (by decide) (by omega)]) (by rw [rn0_k (by decide), ek4 12 (by decide) (by omega)]) hL
    have key : Pc (fX12_lost fu g4 L4) (fun x g1 _ => WR cs g4 n g1 ∧ x = fo (fLost g4 (g1 32)) n) := by
      unfold fX12_lost
      exact pc_cb (wk_m hM4) (fun _ gz Lz e => pc_mo (lost_m e.2 hM4.1.1 n12) (fun x gy _ q => by rw [q.1]; exact ⟨e, q.2⟩))
    refine pc_cb key (fun x28 g29 L30 q => ?_)
    obtain ⟨⟨w1, w2⟩, q2⟩ := q
    have fl : fLost g4 (g29 32) = fLost d (g29 32) := by
      funext i a
      unfold fLost
      rw [ek4 4 (by decide) (by omega), ek4 2 (by decide) (by omega)]
    rw [fl] at q2
    have mk : ∀ i, i < n → (stb (g4 0 60) i = 1 ↔ ¬ rns d (g' 0 80) i) := fun i' hi' => by
      rw [stb_1i (by omega), hb i' hi']
      exact ⟨fun q => q.2, fun q => ⟨by omega, q⟩⟩
    have dy : DY cs (rn0 d (g4 0 60)) n (g29 31) (g29 32) (g29 33) (g29 34) := fun i hi => ldc _ _ _ _ i hi (w1 i hi)
    have ek29 : ∀ k, k ≠ 0 → k < 29 → g29 k = d k := fun k a b => (w2 k (by omega)).trans (ek4 k a b)
    have e29 : ∀ j, j ≠ 60 → j ≠ 80 → g29 0 j = d 0 j := fun j a b => by rw [w2 0 (by omega)]; exact e04 j a b
    have s29 : g29 0 80 = sdd d (g' 0 80) n := by rw [w2 0 (by omega)]; exact es
    have fin : ∀ (x16 : Int32) (La : lT), x16 = (if v6 < x28 then x28 else v6) → Pc (fX12_term_p154 fu k57 p2 p3 p4 (v5 + x28) v7 v8 x16 g29 La) (fun x g1 _ => g1 0 0 = d 0 0 ∧ ∃ z a b c, TT cs n d l p1 D z a b c ∧ x = if p4 = 0 then a else if p4 = 1 then b else c) := by
      intro x16 La h16
      unfold fX12_term_p154 fX12_term_p171
      refine pc_cb (late_m (d := g29) (fun _ _ => rfl) hl) (fun x33 g34 L35 e33 => ?_)
      obtain ⟨rfl, e33⟩ := e33
      rw [ek29 2 (by decide) (by omega)] at e33
      have td : TD cs n d (rns d (g' 0 80)) l x28 x33 := ⟨_, _, _, _, _, mk, dy, q2, e33⟩
      have fin2 : ∀ (t : Int32) (Lb : lT), t = (if x33 ≤ 0 then 0 else 1) → Pc (lti (v7 + t) (fun x37 => k57 (v5 + x28, x16, x37, (v8 + 1), g34, Lb))) (fun x g1 _ => g1 0 0 = d 0 0 ∧ ∃ z a b c, TT cs n d l p1 D z a b c ∧ x = if p4 = 0 then a else if p4 = 1 then b else c) := fun t Lb ht' => pc_lti (fun x37 e37 => hk _ ⟨k + 1, ew, by omega, ek29, e29, ⟨_, _, _, _, _, _, ht, td, s29, rfl, h16, by rw [← ht']; exact e37⟩⟩)
      refine pc_ite (fun c2 => fin2 _ _ ?_) (fun c2 => fin2 _ _ ?_)
      · rw [if_pos c2]
      · rw [if_neg c2]
    refine pc_lti (fun x32 e32 => ?_)
    rw [e32]
    refine pc_ite (fun c2 => fin _ _ ?_) (fun c2 => fin _ _ ?_)
    · have c2 := ic_le.mp c2
      rw [if_neg (fun hh => by have := ic_lt.mp hh; omega)]
    · have c2 := icc_nle (m := x28.toInt) (n := v6.toInt) rfl rfl c2
      rw [if_pos (ic_lt.mpr c2)]
  have c1 := icc_nle e01 hi c1
  have ewi : (v9 + 1).toInt = ((i + 1 : Nat) : Int) := by rw [ic_addc hi (n := 1) rfl (by omega) (by omega)]; omega
  unfold fX12_term_p121
  have nob : rns d (g' 0 80) i → ∀ o, o < n → (tbi (g4 0 60) o = true ↔ (o < i + 1 ∧ ¬ rns d (g' 0 80) o)) := fun hr o ho =>
    (hb o ho).trans ⟨fun w => ⟨by omega, w.2⟩, fun w => ⟨by
      by_cases q : o = i
      · rw [q] at w; exact absurd hr w.2
      · omega, w.2⟩⟩
  have bit : ¬ rns d (g' 0 80) i → ∀ o, o < n → (tbi (g4 0 60 ||| ((1 : Int32) <<< (v9 &&& 31))) o = true ↔ (o < i + 1 ∧ ¬ rns d (g' 0 80) o)) := fun hr o ho => by
    rw [tb_or, vi, tb_s i (by omega) o (by omega)]
    by_cases q : i = o
    · rw [decide_eq_true q, Bool.or_true]
      exact ⟨fun _ => ⟨by omega, by rw [← q]; exact hr⟩, fun _ => rfl⟩
    · rw [decide_eq_false q, Bool.or_false]
      exact (hb o ho).trans ⟨fun w => ⟨by omega, w.2⟩, fun w => ⟨by omega, w.2⟩⟩
  rw [ei, ek4 7 (by decide) (by omega)]
  refine pc_ck (fun _ _ => pc_ite (fun c2 => hk2 _ ⟨i + 1, ewi, by omega, ek4, e04, ?_, nob (Or.inl c2)⟩) (fun c2 => pc_cb draw_m (fun x41 g42 L43 q => ?_)))
  · show g4 0 80 = if d 7 i = 10 then _ else _
    rw [if_pos c2]; exact es
  obtain ⟨q1, q2⟩ := q
  rw [es] at q1 q2
  have ek42 : ∀ k, k ≠ 0 → k < 29 → g42 k = d k := fun k a b => by rw [q1, ← ek4 k a b]; exact funext fun _ => upd2_nk a
  have e42 : ∀ j, j ≠ 60 → j ≠ 80 → g42 0 j = d 0 j := fun j a b => by rw [q1, upd2_nj b]; exact e04 j a b
  have s42 : g42 0 80 = sdd d (g' 0 80) (i + 1) := by
    show g42 0 80 = if d 7 i = 10 then _ else _
    rw [if_neg c2, q1, upd2_at]
  have z42 : g42 0 60 = g4 0 60 := by rw [q1, upd2_nj (by decide)]
  rw [ek42 7 (by decide) (by omega), q2]
  refine pc_ck (fun _ _ => pc_ite (fun c3 => hk2 _ ⟨i + 1, ewi, by omega, ek42, e42, s42, ?_⟩) (fun c3 => pc_st (fun g46 e46 => hk2 _ ⟨i + 1, ewi, by omega, fun k a b => ?_, fun j a b => ?_, ?_, ?_⟩)))
  · show ∀ o, o < n → (tbi (g42 0 60) o = true ↔ _)
    rw [z42]
    exact nob (Or.inr (fun hh => i32_nle c3 hh))
  · show g46 k = d k
    rw [e46, ← ek42 k a b]; exact funext fun _ => upd2_nk a
  · show g46 0 j = d 0 j
    rw [e46, upd2_nj a]; exact e42 j a b
  · show g46 0 80 = _
    rw [e46, upd2_nj (by decide)]; exact s42
  · show ∀ o, o < n → (tbi (g46 0 60) o = true ↔ _)
    rw [e46, upd2_at, z42]
    refine bit (fun hr => ?_)
    rcases hr with hr | hr
    · exact c2 hr
    · exact hr (i32_nlt c3)
theorem cr_term {fu : Nat} {p1 p2 p3 p4 : Int32} {g gm g1 g2 : gT} {L Lm L1 L2 : lT} {rx : Except String Int32} {rm : Int32} (hS : CS g gm) (e1 : fX11_term_0 fu p1 p2 p3 p4 g L = some (rx, (g1, L1))) (e2 : fX12_term fu p1 p2 p3 p4 gm Lm = some (rm, (g2, L2))) : (rx = .ok rm ∧ g2 0 0 = 0) ∨ (rx = .error NSE ∧ g2 0 0 = 1) ∨ (rx = .error IAE ∧ g2 0 0 = 2) := by
  have h := hS.1
  have hp := h.1.1
  have hI := hp.2.1
  obtain ⟨k1, -⟩ := hp.2.2.2.2.2.2.1
  have r1 := hI 0 1 0 12 rfl
  have a0 : upd2 gm 0 0 0 0 0 = 0 := upd2_at
  have a1 : upd2 gm 0 0 0 0 1 = gm 0 1 := rfl
  unfold fX11_term_0 at e1
  unfold fX12_term fX12_term_p38 at e2
  unfold sti at e2
  have e2 : cb (fX12_isLesson fu p3 (upd2 gm 0 0 0) Lm) _ = some (rm, (g2, L2)) := e2
  by_cases c1 : isL (gm 0 1) p3
  rotate_left
  · rw [xneed0 (by rw [k1]; exact c1)] at e1
    have e1 : some (.error NSE, (g, L)) = some (rx, (g1, L1)) := e1
    rw [lesson0 a0 (by rw [a1]; exact c1)] at e2
    have e2 : some ((0 : Int32), (upd2 (upd2 gm 0 0 0) 0 0 1, Lm)) = some (rm, (g2, L2)) := e2
    cases e1; cases e2
    exact Or.inr (Or.inl ⟨rfl, upd2_at⟩)
  rw [xneed1 (by rw [k1]; exact c1), cbxs] at e1
  rw [lesson1 a0 (by rw [a1]; exact c1), cbs, if_neg (by decide)] at e2
  have i3 : (3 : Int32).toInt = 3 := rfl
  have i2 : (2 : Int32).toInt = 2 := rfl
  by_cases c2 : 0 ≤ p4.toInt ∧ p4.toInt ≤ (2 : Int32).toInt
  rotate_left
  · rw [xwhat0 (fun hh => c2 (by omega))] at e1
    have e1 : some (.error NSE, (g, L)) = some (rx, (g1, L1)) := e1
    rw [what0 a0 c2] at e2
    have e2 : some ((0 : Int32), (upd2 (upd2 gm 0 0 0) 0 0 1, Lm)) = some (rm, (g2, L2)) := e2
    cases e1; cases e2
    exact Or.inr (Or.inl ⟨rfl, upd2_at⟩)
  rw [xwhat1 c2.1 (by omega), cbxs] at e1
  rw [what1 a0 c2.1 c2.2, cbs, if_neg (by decide)] at e2
  by_cases c3 : (0 : Int32).toInt ≤ p2.toInt ∧ p2.toInt ≤ (60 : Int32).toInt
  rotate_left
  · rw [xwith0 c3] at e1
    have e1 : some (.error IAE, (g, L)) = some (rx, (g1, L1)) := e1
    rw [within0 c3, cbs, right0 a0 (by decide), cbs, if_pos rfl] at e2
    cases e1; cases e2
    exact Or.inr (Or.inr ⟨rfl, upd2_at⟩)
  rw [xwith1 c3.1 c3.2, cbxs] at e1
  rw [within1 c3.1 c3.2, cbs, right1 a0, cbs, if_neg (by decide)] at e2
  have i0 : (0 : Int32).toInt = 0 := rfl
  have i60 : (60 : Int32).toInt = 60 := rfl
  have hl := l12 c1 r1.2
  obtain ⟨l, el⟩ : ∃ i : Nat, p3.toInt = (i : Int) := ⟨p3.toInt.toNat, by omega⟩
  obtain ⟨D, eD⟩ : ∃ i : Nat, p2.toInt = (i : Int) := ⟨p2.toInt.toNat, by omega⟩
  have nl : l < (gm 0 1).toInt.toNat := by have := c1.2; omega
  obtain ⟨xa, ga, La, ea, e1⟩ := cb_some e1
  cases e1
  obtain ⟨cs, hX, hM, -⟩ := dc_all h
  have hM := hM.d (e0_u (x := 0))
  have h7 : ∀ i, i < (gm 0 1).toInt.toNat → g (57 + i) 12 = upd2 gm 0 0 0 7 i := fun i hi => by
    rw [upd2_nk (by decide)]
    exact (h.1.2.1.1 i (by omega)).2.1.2.2.1
  obtain ⟨z, a, b, c, t1, t2⟩ := term_x (hX.d (e0_u (x := 0))) h7 el nl eD (by omega) _ _ _ ea
  have e2 : fX12_term_l57 fu p2 p3 p4 0 0 0 0 (upd2 (upd2 gm 0 0 0) 0 80 p1) Lm = some (rm, (g2, L2)) := e2
  obtain ⟨v0, z', a', b', c', w1, w2⟩ := term_m hM el nl eD (by omega) (fun k hk _ => funext fun _ => upd2_nk hk) (fun j _ hj => upd2_nj hj) upd2_at _ _ _ e2
  obtain ⟨-, rfl, rfl, rfl⟩ := TT.u hM.2.1 nl D t1 w1
  exact Or.inl ⟨by rw [t2, w2], by rw [v0]; exact a0⟩
end
