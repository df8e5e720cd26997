/-! ===== one lesson runs over by more: far, reaches, slack ===== -/
/-- l runs over by m more, up to 180 -/
def mo (d : gT) (l : Nat) (m x : Int32) : gT := upd2 (upd2 d 12 l (d 12 l + m)) 0 61 x
theorem mo_k {d : gT} {l k : Nat} {m x : Int32} (h : k ≠ 12) (h0 : k ≠ 0) : mo d l m x k = d k := funext fun _ => by unfold mo; rw [upd2_nk h0, upd2_nk h]
theorem mo_0 {d : gT} {l j : Nat} {m x : Int32} (h : j ≠ 61) : mo d l m x 0 j = d 0 j := by unfold mo; rw [upd2_nj h, upd2_nk (by decide)]
theorem mo_61 {d : gT} {l : Nat} {m x : Int32} : mo d l m x 0 61 = x := by unfold mo; rw [upd2_at]
theorem mo_12 {d : gT} {l j : Nat} {m x : Int32} (h : j ≠ l) : mo d l m x 12 j = d 12 j := by unfold mo; rw [upd2_nk (by decide), upd2_nj h]
theorem mo_cmg {d : gT} {l : Nat} {m x : Int32} (l12 : l < 12) : cmg (mo d l m x) = cmg d := by
  funext en i k
  unfold cmg wf0 wy
  rw [mo_k (k := 9) (by decide) (by decide), mo_k (k := 4) (by decide) (by decide), mo_0 (j := 3) (by decide), mo_0 (j := 4) (by decide), mo_12 (show 24 + (d 9 (6 * i + k)).toInt.toNat ≠ l by omega), mo_12 (show 24 + i ≠ l by omega), mo_12 (show 12 + i ≠ l by omega)]
theorem mo_ld {cs : Nat → List Int} {d : gT} {l i : Nat} {m x : Int32} {bg en ru by_ : Nat → Int32} (l12 : l < 12) (il : i ≠ l) (h61 : d 0 61 ≠ Int32.ofInt (i : Int)) (hx : x ≠ Int32.ofInt (i : Int)) : LD cs (mo d l m x) bg en ru by_ i ↔ LD cs d bg en ru by_ i := by
  have ht : ∀ b, tl (mo d l m x) b i = tl d b i := fun b => by
    funext j
    match j with
    | 0 => show mo d l m x 12 i = d 12 i; rw [mo_12 il]
    | 1 => show b - mo d l m x 1 i = b - d 1 i; rw [mo_k (by decide) (by decide)]
    | 2 => rfl
    | 3 => show mo d l m x 12 (24 + i) = d 12 (24 + i); rw [mo_12 (by omega)]
    | 4 => show mo d l m x 4 i = d 4 i; rw [mo_k (by decide) (by decide)]
    | 5 => rfl
    | j + 6 => rfl
  have ho : ∀ b, ov cs (mo d l m x) i b = ov cs d i b := fun b => by
    rw [ov_e, ov_e]
    unfold gv
    rw [mo_0 (j := 60) (by decide), mo_61, mo_0 (j := 52) (by decide), mo_12 il, ht, if_neg hx, if_neg h61]
  unfold LD LB FC
  rw [mo_cmg l12, ho, mo_k (k := 1) (by decide) (by decide), mo_k (k := 2) (by decide) (by decide), mo_k (k := 3) (by decide) (by decide), mo_k (k := 5) (by decide) (by decide), mo_k (k := 6) (by decide) (by decide), mo_k (k := 8) (by decide) (by decide), mo_k (k := 9) (by decide) (by decide), mo_12 (show 36 + i ≠ l by omega)]
theorem DC.wide {cs : Nat → List Int} {n : Nat} {x : Int32} {g d : gT} (h : DC cs n g d) : DC cs n (upd2 g 8 9 x) (upd2 d 0 61 x) := by
  obtain ⟨a1, a3, a4, a5, a6, a7, a8, a9, a10⟩ := h
  have ek : ∀ k, k ≠ 8 → upd2 g 8 9 x k = g k := fun k hk => funext fun _ => upd2_nk hk
  have dk : ∀ k, k ≠ 0 → upd2 d 0 61 x k = d k := fun k hk => funext fun _ => upd2_nk hk
  have d0 : ∀ j, j ≠ 61 → upd2 d 0 61 x 0 j = d 0 j := fun j hj => upd2_nj hj
  refine ⟨by rw [ek 1 (by decide)]; exact a1, fun i hi => ⟨(a3 i hi).1.c (ek _ (by omega)) (ek _ (by omega)) (fun k x _ => dk k (by omega)), (a3 i hi).2.c (ek _ (by decide)) (ek _ (by decide)) (ek _ (by decide)) (ek _ (by decide)) (dk 12 (by decide))⟩, ?_, wf_e a5 (dk 5 (by decide)) (dk 6 (by decide)) (dk 8 (by decide)) (dk 9 (by decide)), ?_, ?_, ?_, ?_, ?_⟩
  · rw [ek 1 (by decide), d0 3 (by decide), d0 4 (by decide)]; exact a4
  · rw [dk 12 (by decide), dk 8 (by decide)]; exact a6
  · rw [ek 6 (by decide), ek 3 (by decide), d0 52 (by decide)]; exact a7
  · rw [ek 3 (by decide), ek 20 (by decide), ek 19 (by decide)]; exact a8
  · rw [upd2_nj (by decide), d0 60 (by decide)]; exact a9
  · rw [upd2_at, upd2_at]
theorem MD.wide {cs : Nat → List Int} {n : Nat} {x : Int32} {d : gT} (h : MD cs n d) : MD cs n (upd2 d 0 61 x) := by
  have dk : ∀ k, k ≠ 0 → upd2 d 0 61 x k = d k := fun k hk => funext fun _ => upd2_nk hk
  unfold MD WF
  rw [dk 5 (by decide), dk 6 (by decide), dk 8 (by decide), dk 9 (by decide), dk 10 (by decide), dk 11 (by decide), upd2_nj (by decide), upd2_nj (by decide)]
  exact h
/-- the ends of a day -/
def EN (cs : Nat → List Int) (n : Nat) (d : gT) (en : Nat → Int32) : Prop := ∃ bg ru by_, DY cs d n bg en ru by_
theorem EN.u {cs : Nat → List Int} {n : Nat} {d : gT} {en en' : Nat → Int32} (hW : WF n d) (h : EN cs n d en) (h' : EN cs n d en') : ∀ i, i < n → en i = en' i := by
  obtain ⟨b1, r1, y1, h1⟩ := h
  obtain ⟨b2, r2, y2, h2⟩ := h'
  exact fun i hi => (DY.u hW h1 h2 i hi).2.1
theorem EN.c {cs : Nat → List Int} {n : Nat} {d : gT} {en en' : Nat → Int32} (hW : WF n d) (h : EN cs n d en) (e : ∀ i, i < n → en i = en' i) : EN cs n d en' := by
  obtain ⟨b1, r1, y1, h1⟩ := h
  exact ⟨b1, r1, y1, fun i hi => (h1 i hi).c hW hi (fun j hj => e j (by omega)) rfl rfl rfl⟩
theorem EN.t {cs : Nat → List Int} {n : Nat} {d g : gT} {en : Nat → Int32} (e : ∀ k, k < 29 → g k = d k) (h : EN cs n g en) : EN cs n d en := by
  obtain ⟨b1, r1, y1, h1⟩ := h
  rw [← DY_T, Td_q e, DY_T] at h1
  exact ⟨b1, r1, y1, h1⟩
theorem wf_mo {n l : Nat} {d : gT} {m x : Int32} (hW : WF n d) : WF n (mo d l m x) := wf_e hW (mo_k (by decide) (by decide)) (mo_k (by decide) (by decide)) (mo_k (by decide) (by decide)) (mo_k (by decide) (by decide))
theorem oi_ne {i l : Nat} (h : i ≠ l) (hi : i < 12) (hl : l < 12) : Int32.ofInt (l : Int) ≠ Int32.ofInt (i : Int) := fun e => by
  have e := congrArg Int32.toInt e
  rw [Int32.toInt_ofInt_of_le (by omega) (by omega), Int32.toInt_ofInt_of_le (by omega) (by omega)] at e
  omega
theorem oi_n1 {i : Nat} (hi : i < 12) : (-1 : Int32) ≠ Int32.ofInt (i : Int) := fun e => by
  have e := congrArg Int32.toInt e
  rw [Int32.toInt_ofInt_of_le (by omega) (by omega)] at e
  have : (-1 : Int32).toInt = -1 := rfl
  omega
theorem keep_x {cs : Nat → List Int} {n fu : Nat} {g d : gT} {L : lT} (h : DC cs n g d) : Pc (fX10_keepEnds_9 fu g L) (fun _ g1 _ => (∀ k, k ≠ 49 → k ≠ 21 → (k < 43 ∨ 48 < k) → g1 k = g k) ∧ DY cs d n (g1 43) (g1 44) (g1 45) (g1 46) ∧ ∀ j, j < 12 → g1 49 j = g1 44 j) := by
  unfold fX10_keepEnds_9
  refine pc_cb (rf_x h (f := 0) rfl (Nat.zero_le _)) (fun _ g2 L3 e2 => pc_stA (fun g5 e5 => pc_some ⟨fun k a b c => ?_, ?_, fun j hj => ?_⟩))
  · rw [e5, updA_ne a, e2.2.2 k b c]
  · rw [e5, updA_ne (by decide), updA_ne (by decide), updA_ne (by decide), updA_ne (by decide)]
    exact fun i hi => e2.1 i (Nat.zero_le _) hi
  · rw [e5, updA_at, cpy_at, if_pos hj, updA_ne (by decide)]
/-- a lesson ahead stands as it was -/
theorem pre_c {cs : Nat → List Int} {n l : Nat} {d g g1 : gT} (hW : WF n d) (ln : l < n) (h : ∀ i, i < l → LD cs d (g 43) (g 44) (g 45) (g 46) i) (e : ∀ j, j < l → g1 43 j = g 43 j ∧ g1 44 j = g 44 j ∧ g1 45 j = g 45 j ∧ g1 46 j = g 46 j) : ∀ i, i < l → LD cs d (g1 43) (g1 44) (g1 45) (g1 46) i := fun i hi =>
  (h i hi).c hW (by omega) (fun j hj => (e j (by omega)).2.1.symm) (e i hi).1.symm (e i hi).2.2.1.symm (e i hi).2.2.2.symm
theorem more_x {cs : Nat → List Int} {n l fu : Nat} {p1 p2 : Int32} {g d : gT} {L : lT} (h : DC cs n g d) (h61 : d 0 61 = -1) (hl : p1.toInt = (l : Int)) (ln : l < n) (pre : ∀ i, i < l → LD cs d (g 43) (g 44) (g 45) (g 46) i) : Pc (fX10_runMore_9 fu p1 p2 g L) (fun _ g1 _ => (∀ k, k ≠ 21 → (k < 43 ∨ 48 < k) → g1 k = g k) ∧ (∀ i, i < l → LD cs d (g1 43) (g1 44) (g1 45) (g1 46) i) ∧ EN cs n (mo d l p2 p1) (g1 44)) := by
  have hW := h.2.2.2.1
  have n12 := h.1.2
  have l12' : l < 12 := by omega
  have el : p1.toNatClampNeg = l := by rw [nc, hl]; omega
  have pl : p1 = Int32.ofInt (l : Int) := by rw [← hl]; exact io_i.symm
  unfold fX10_runMore_9
  rw [el]
  refine pc_ck (fun _ _ => pc_lti (fun x1 e1 => pc_ck (fun _ _ => pc_st (fun g2 e2 => pc_st (fun g3 e3 => ?_)))))
  have d1 : g 25 l = d 12 l := (h.2.1 l ln).2.1
  have hD : DC cs n g3 (mo d l p2 p1) := by
    have x := (h.put (q := 0) (l := l) (v := d 12 l + p2) (by decide) l12' (fun e => absurd e (by decide))).wide (x := p1)
    rw [show 12 * 0 + l = l by omega] at x
    rw [e3, e2, e1, d1]; exact x
  have o3 : ∀ k, k ≠ 25 → k ≠ 8 → g3 k = g k := fun k a b => by rw [e3, e2]; exact funext fun _ => by rw [upd2_nk b, upd2_nk a]
  refine pc_cb (rf_x hD hl (by omega)) (fun _ g5 L6 e5 => pc_st (fun g8 e8 => pc_ck (fun _ _ => pc_st (fun g9 e9 => pc_some ?_))))
  obtain ⟨r1, r2, r3⟩ := e5
  have o9 : ∀ k, k ≠ 25 → k ≠ 8 → g9 k = g5 k := fun k a b => by rw [e9, e8]; exact funext fun _ => by rw [upd2_nk a, upd2_nk b]
  have q43 := o9 43 (by decide) (by decide)
  have q44 := o9 44 (by decide) (by decide)
  have q45 := o9 45 (by decide) (by decide)
  have q46 := o9 46 (by decide) (by decide)
  have pre5 : ∀ i, i < l → LD cs d (g5 43) (g5 44) (g5 45) (g5 46) i := pre_c hW ln pre (fun j hj => by
    have a := r2 j hj
    rw [o3 43 (by decide) (by decide), o3 44 (by decide) (by decide), o3 45 (by decide) (by decide), o3 46 (by decide) (by decide)] at a
    exact a)
  refine ⟨fun k a b => ?_, by rw [q43, q44, q45, q46]; exact pre5, ?_⟩
  · by_cases h25 : k = 25
    · subst h25
      funext j
      rw [e9]
      by_cases hj : j = l
      · rw [hj, upd2_at, e1]
      · rw [upd2_nj hj, e8, upd2_nk (by decide), r3 25 (by decide) (by omega), e3, upd2_nk (by decide), e2, upd2_nj hj]
    · by_cases h8 : k = 8
      · subst h8
        funext j
        rw [e9, upd2_nk (by decide), e8]
        by_cases hj : j = 9
        · rw [hj, upd2_at, h.2.2.2.2.2.2.2.2, h61]
        · rw [upd2_nj hj, r3 8 (by decide) (by omega), e3, upd2_nj hj, e2, upd2_nk (by decide)]
      · rw [o9 k h25 h8, r3 k a b, o3 k h25 h8]
  · rw [q44]
    refine ⟨g5 43, g5 45, g5 46, fun i hi => ?_⟩
    by_cases c : l ≤ i
    · exact r1 i c hi
    · have il : i ≠ l := by omega
      exact (mo_ld l12' il (by rw [h61]; exact oi_n1 (by omega)) (by rw [pl]; exact oi_ne il (by omega) l12')).mpr (pre5 i (by omega))
/-- minutes by which ends are later, all in all -/
def fLM (en sv : Nat → Int32) (i : Nat) (a : Int32) : Int32 := a + (en i - sv i)
def fLt (d : gT) (en : Nat → Int32) (i : Nat) (a : Int32) : Int32 := a + (en i - d 2 i)
theorem flm_e {d : gT} {en sv : Nat → Int32} : ∀ n : Nat, fo (fLM en sv) n = fo (fLt d en) n - fo (fLt d sv) n := by
  intro n
  induction n with
  | zero => show (0 : Int32) = 0 - 0; rw [Int32.sub_self]
  | succ n ih =>
    show fo (fLM en sv) n + (en n - sv n) = (fo (fLt d en) n + (en n - d 2 n)) - (fo (fLt d sv) n + (sv n - d 2 n))
    rw [ih]
    generalize fo (fLt d en) n = y
    generalize fo (fLt d sv) n = z
    generalize en n = e
    generalize sv n = s
    generalize d 2 n = t
    refine ((Int32.sub_eq_iff_eq_add).mpr ?_).symm
    have : y - z + (e - s) + (z + (s - t)) = (y + (e - t)) + ((-z + z) + (-s + s)) := by
      rw [Int32.sub_eq_add_neg, Int32.sub_eq_add_neg, Int32.sub_eq_add_neg, Int32.sub_eq_add_neg]
      ac_rfl
    rw [this, Int32.add_left_neg, Int32.add_left_neg, Int32.add_zero, Int32.add_zero]
theorem bits_x {cs : Nat → List Int} {n fu : Nat} {g d : gT} {L : lT} (h : DC cs n g d) : Pc (fX10_laterBits_9 fu g L) (fun x g1 _ => g1 = g ∧ x = fo (fLB (g 44) (g 49)) n) := by
  have hn := h.1
  have n12 := h.1.2
  unfold fX10_laterBits_9 fX10_laterBits_9_l4
  refine pc_loop (fun v => ∃ m : Nat, v.2.1.toInt = (m : Int) ∧ m ≤ n ∧ v.1 = fo (fLB (g 44) (g 49)) m ∧ v.2.2.1 = g) (fun k4 hk v hv => ?_) ⟨0, rfl, by omega, rfl, rfl⟩
  obtain ⟨v1, v2, g', L'⟩ := v
  obtain ⟨m, hm, mn, e1, eg⟩ := hv
  replace hm : v2.toInt = (m : Int) := hm
  replace e1 : v1 = fo (fLB (g 44) (g 49)) m := e1
  replace eg : g' = g := eg
  subst eg
  show Pc (fX10_laterBits_9_s4 fu k4 v1 v2 g' L') _
  unfold fX10_laterBits_9_s4 fX10_laterBits_9_p36 fX10_lessonCount_9
  rw [cbs]
  have ei : v2.toNatClampNeg = m := by rw [nc, hm]; omega
  have vi : v2 = Int32.ofInt (m : Int) := by rw [← hm]; exact io_i.symm
  refine pc_ite (fun c => pc_some ⟨rfl, ?_⟩) (fun c => ?_)
  · have c := icc_le hn.1 hm c
    rw [e1, show m = n by omega]
  have c := icc_nle hn.1 hm c
  have ew : (v2 + 1).toInt = ((m + 1 : Nat) : Int) := by rw [ic_addc hm (n := 1) rfl (by omega) (by omega)]; omega
  rw [ei]
  refine pc_ck (fun _ _ => pc_ck (fun _ _ => pc_ite (fun c1 => hk _ ⟨m + 1, ew, by omega, ?_, rfl⟩) (fun c1 => pc_lti (fun x7 e7 => hk _ ⟨m + 1, ew, by omega, ?_, rfl⟩))))
  · show v1 = fLB (g' 44) (g' 49) m (fo (fLB (g' 44) (g' 49)) m)
    unfold fLB
    rw [if_pos c1]; exact e1
  · show x7 = fLB (g' 44) (g' 49) m (fo (fLB (g' 44) (g' 49)) m)
    rw [e7, e1, vi]
    show _ = if g' 44 m ≤ g' 49 m then _ else _
    rw [if_neg c1]
theorem mins_x {cs : Nat → List Int} {n fu : Nat} {g d : gT} {L : lT} (h : DC cs n g d) : Pc (fX10_laterMinutes_9 fu g L) (fun x g1 _ => g1 = g ∧ x = fo (fLM (g 44) (g 49)) n) := by
  have hn := h.1
  have n12 := h.1.2
  unfold fX10_laterMinutes_9 fX10_laterMinutes_9_l4
  refine pc_loop (fun v => ∃ m : Nat, v.2.1.toInt = (m : Int) ∧ m ≤ n ∧ v.1 = fo (fLM (g 44) (g 49)) m ∧ v.2.2.1 = g) (fun k4 hk v hv => ?_) ⟨0, rfl, by omega, rfl, rfl⟩
  obtain ⟨v1, v2, g', L'⟩ := v
  obtain ⟨m, hm, mn, e1, eg⟩ := hv
  replace hm : v2.toInt = (m : Int) := hm
  replace e1 : v1 = fo (fLM (g 44) (g 49)) m := e1
  replace eg : g' = g := eg
  subst eg
  show Pc (fX10_laterMinutes_9_s4 fu k4 v1 v2 g' L') _
  unfold fX10_laterMinutes_9_s4 fX10_lessonCount_9
  rw [cbs]
  have ei : v2.toNatClampNeg = m := by rw [nc, hm]; omega
  refine pc_ite (fun c => pc_some ⟨rfl, ?_⟩) (fun c => ?_)
  · have c := icc_le hn.1 hm c
    rw [e1, show m = n by omega]
  have c := icc_nle hn.1 hm c
  rw [ei]
  refine pc_ck (fun _ _ => pc_ck (fun _ _ => pc_lti (fun x6 e6 => hk _ ⟨m + 1, ?_, by omega, ?_, rfl⟩)))
  · show (v2 + 1).toInt = _
    rw [ic_addc hm (n := 1) rfl (by omega) (by omega)]; omega
  · show x6 = fLM (g' 44) (g' 49) m (fo (fLM (g' 44) (g' 49)) m)
    rw [e6, e1]; rfl
/-! the reference -/
theorem cp37 {fu : Nat} {g : gT} {L : lT} : Pc (fX12_copies_32_37 fu g L) (fun _ g1 _ => (∀ j, j < 12 → g1 37 j = g 32 j) ∧ ∀ k, k ≠ 37 → g1 k = g k) := by
  unfold fX12_copies_32_37 fX12_copies_32_37_l2
  refine pc_loop (fun v => ∃ m : Nat, v.1.toInt = (m : Int) ∧ m ≤ 12 ∧ (∀ j, j < m → v.2.1 37 j = g 32 j) ∧ ∀ k, k ≠ 37 → v.2.1 k = g k) (fun k2 hk v hv => ?_) ⟨0, rfl, by omega, fun j hj => absurd hj (Nat.not_lt_zero _), fun _ _ => rfl⟩
  obtain ⟨v3, g', L'⟩ := v
  obtain ⟨m, hm, mn, e1, ek⟩ := hv
  replace hm : v3.toInt = (m : Int) := hm
  replace e1 : ∀ j, j < m → g' 37 j = g 32 j := e1
  replace ek : ∀ k, k ≠ 37 → g' k = g k := ek
  show Pc (fX12_copies_32_37_s2 fu k2 v3 g' L') _
  unfold fX12_copies_32_37_s2
  have ei : v3.toNatClampNeg = m := by rw [nc, hm]; omega
  refine pc_ite (fun c => pc_some ⟨fun j hj => e1 j ?_, ek⟩) (fun c => ?_)
  · have c := icc_le (m := 12) rfl hm c
    omega
  have c := icc_nle (m := 12) rfl hm c
  rw [ei, ek 32 (by decide)]
  refine pc_ck (fun _ _ => pc_ck (fun _ _ => pc_st (fun g2 e2 => hk _ ⟨m + 1, ?_, by omega, fun j hj => ?_, fun k h => ?_⟩)))
  · show (v3 + 1).toInt = _
    rw [ic_addc hm (n := 1) rfl (by omega) (by omega)]; omega
  · show g2 37 j = _
    by_cases q : j = m
    · rw [q, e2, upd2_at]
    · rw [e2, upd2_nj q]; exact e1 j (by omega)
  · show g2 k = g k
    rw [e2, ← ek k h]; exact funext fun _ => upd2_nk h
theorem lates_m {n fu : Nat} {g : gT} {L : lT} (hn : (g 0 1).toInt = (n : Int)) (n12 : n ≤ 12) : Pc (fX12_lates fu g L) (fun x g1 _ => g1 = g ∧ x = fo (fLt g (g 32)) n) := by
  unfold fX12_lates fX12_lates_l4
  refine pc_loop (fun v => ∃ m : Nat, v.2.1.toInt = (m : Int) ∧ m ≤ n ∧ v.1 = fo (fLt g (g 32)) m ∧ v.2.2.1 = g) (fun k4 hk v hv => ?_) ⟨0, rfl, by omega, rfl, rfl⟩
  obtain ⟨v1, v2, g', L'⟩ := v
  obtain ⟨m, hm, mn, e1, eg⟩ := hv
  replace hm : v2.toInt = (m : Int) := hm
  replace e1 : v1 = fo (fLt g (g 32)) m := e1
  replace eg : g' = g := eg
  subst eg
  show Pc (fX12_lates_s4 fu k4 v1 v2 g' L') _
  unfold fX12_lates_s4
  refine pc_ite (fun c => pc_some ⟨rfl, ?_⟩) (fun c => ?_)
  · have c := icc_le hn hm c
    rw [e1, show m = n by omega]
  have c := icc_nle hn hm c
  refine pc_cb (late_m (d := g') (fun _ _ => rfl) hm) (fun x2 g3 L4 e => ?_)
  obtain ⟨rfl, e⟩ := e
  refine pc_lti (fun x6 e6 => hk _ ⟨m + 1, ?_, by omega, ?_, rfl⟩)
  · show (v2 + 1).toInt = _
    rw [ic_addc hm (n := 1) rfl (by omega) (by omega)]; omega
  · show x6 = fLt g3 (g3 32) m (fo (fLt g3 (g3 32)) m)
    rw [e6, e, e1]; rfl
theorem fLt_c {d g : gT} {en : Nat → Int32} (e : g 2 = d 2) : fLt g en = fLt d en := by
  funext i a
  unfold fLt
  rw [e]
theorem later_m {n fu : Nat} {g : gT} {L : lT} (hn : (g 0 1).toInt = (n : Int)) (n12 : n ≤ 12) : Pc (fX12_later fu g L) (fun x g1 _ => g1 = g ∧ x = fo (fLB (g 32) (g 37)) n) := by
  unfold fX12_later fX12_later_l4
  refine pc_loop (fun v => ∃ m : Nat, v.2.1.toInt = (m : Int) ∧ m ≤ n ∧ v.1 = fo (fLB (g 32) (g 37)) m ∧ v.2.2.1 = g) (fun k4 hk v hv => ?_) ⟨0, rfl, by omega, rfl, rfl⟩
  obtain ⟨v1, v2, g', L'⟩ := v
  obtain ⟨m, hm, mn, e1, eg⟩ := hv
  replace hm : v2.toInt = (m : Int) := hm
  replace e1 : v1 = fo (fLB (g 32) (g 37)) m := e1
  replace eg : g' = g := eg
  subst eg
  show Pc (fX12_later_s4 fu k4 v1 v2 g' L') _
  unfold fX12_later_s4 fX12_later_p35
  have ei : v2.toNatClampNeg = m := by rw [nc, hm]; omega
  have vi : v2 = Int32.ofInt (m : Int) := by rw [← hm]; exact io_i.symm
  refine pc_ite (fun c => pc_some ⟨rfl, ?_⟩) (fun c => ?_)
  · have c := icc_le hn hm c
    rw [e1, show m = n by omega]
  have c := icc_nle hn hm c
  have ew : (v2 + 1).toInt = ((m + 1 : Nat) : Int) := by rw [ic_addc hm (n := 1) rfl (by omega) (by omega)]; omega
  rw [ei]
  refine pc_ck (fun _ _ => pc_ck (fun _ _ => pc_ite (fun c1 => pc_lti (fun x2 e2 => hk _ ⟨m + 1, ew, by omega, ?_, rfl⟩)) (fun c1 => pc_lti (fun x2 e2 => hk _ ⟨m + 1, ew, by omega, ?_, rfl⟩))))
  · show x2 = if g' 32 m ≤ g' 37 m then _ else _
    rw [if_pos c1, e2, Int32.or_zero]; exact e1
  · show x2 = if g' 32 m ≤ g' 37 m then _ else _
    rw [if_neg c1, e2, e1, vi]
theorem moreBy_m {cs : Nat → List Int} {n l fu : Nat} {p1 p2 : Int32} {g d : gT} {L : lT} (hM : MD cs n d) (e : ∀ k, k < 29 → g k = d k) (h61 : d 0 61 = -1) (hl : p1.toInt = (l : Int)) (l12' : l < 12) : Pc (fX12_moreBy fu p1 p2 g L) (fun x g1 _ => (∀ k, k < 29 → g1 k = d k) ∧ EN cs n d (g1 37) ∧ EN cs n (mo d l p2 p1) (g1 32) ∧ x = fo (fLM (g1 32) (g1 37)) n) := by
  have hW := hM.2.1
  have n12 := hM.1.2
  have e0 : (0 + p1).toNatClampNeg = l := by rw [nc, ic_addc (m := 0) rfl hl (by omega) (by omega)]; omega
  unfold fX12_moreBy
  rw [e0]
  refine pc_cb (wk_m (hM.t e)) (fun _ g2 L3 e2 => pc_cb cp37 (fun _ g6 L7 e6 => ?_))
  have k2 : ∀ k, k < 29 → g2 k = d k := fun k hk => (e2.2 k (by omega)).trans (e k hk)
  have k6 : ∀ k, k < 29 → g6 k = d k := fun k hk => (e6.2 k (by omega)).trans (k2 k hk)
  have n1 : EN cs n d (g6 37) := EN.c hW (EN.t e ⟨_, _, _, e2.1⟩) (fun i hi => (e6.1 i (by omega)).symm)
  refine pc_cb (lates_m (n := n) (by rw [k6 0 (by omega)]; exact hM.1.1) n12) (fun x9 g10 L11 q9 => ?_)
  obtain ⟨rfl, q9⟩ := q9
  rw [e6.2 32 (by decide), fLt_c (k6 2 (by omega))] at q9
  have q9' : x9 = fo (fLt d (g10 37)) n := by
    rw [q9]
    exact fo_c (fun i hi a => by unfold fLt; rw [e6.1 i (by omega)])
  refine pc_ck (fun _ _ => pc_ck (fun _ _ => pc_st (fun g13 e13 => pc_st (fun g14 e14 => ?_))))
  have k14 : ∀ k, k < 29 → g14 k = mo d l p2 p1 k := fun k hk => by
    rw [e14, e13, k6 12 (by omega)]
    by_cases h0 : k = 0
    · subst h0
      funext j
      by_cases hj : j = 61
      · rw [hj, upd2_at, mo_61]
      · rw [upd2_nj hj, upd2_nk (by decide), k6 0 (by omega), mo_0 hj]
    · by_cases h12 : k = 12
      · subst h12
        funext j
        rw [upd2_nk (by decide)]
        by_cases hj : j = l
        · rw [hj, upd2_at]
          show _ = upd2 (upd2 d 12 l (d 12 l + p2)) 0 61 p1 12 l
          rw [upd2_nk (by decide), upd2_at]
        · rw [upd2_nj hj, k6 12 (by omega), mo_12 hj]
      · funext j
        rw [upd2_nk h0, upd2_nk h12, k6 k hk, mo_k h12 h0]
  have hM14 : MD cs n g14 := MD.t (d := mo d l p2 p1) (MD.wide (MD.put hM)) k14
  refine pc_cb (wk_m hM14) (fun _ g16 L17 e16 => pc_st (fun g19 e19 => pc_ck (fun _ _ => pc_ck (fun _ _ => pc_st (fun g20 e20 => ?_)))))
  have n2 : EN cs n (mo d l p2 p1) (g16 32) := EN.t k14 ⟨_, _, _, e16.1⟩
  have a12 : g19 12 l = d 12 l + p2 := by
    rw [e19, upd2_nk (by decide), e16.2 12 (by omega), k14 12 (by omega)]
    show upd2 (upd2 d 12 l (d 12 l + p2)) 0 61 p1 12 l = _
    rw [upd2_nk (by decide), upd2_at]
  have k20 : ∀ k, k < 29 → g20 k = d k := fun k hk => by
    by_cases h12 : k = 12
    · subst h12
      funext j
      by_cases hj : j = l
      · rw [hj, e20, upd2_at, a12, Int32.add_sub_cancel]
      · rw [e20, upd2_nj hj, e19, upd2_nk (by decide), e16.2 12 (by omega), k14 12 (by omega), mo_12 hj]
    · by_cases h0 : k = 0
      · subst h0
        funext j
        rw [e20, upd2_nk (by decide), e19]
        by_cases hj : j = 61
        · rw [hj, upd2_at, h61]
        · rw [upd2_nj hj, e16.2 0 (by omega), k14 0 (by omega), mo_0 hj]
      · funext j
        rw [e20, upd2_nk h12, e19, upd2_nk h0, e16.2 k (by omega), k14 k hk, mo_k h12 h0]
  have o20 : ∀ k, k ≠ 12 → k ≠ 0 → g20 k = g16 k := fun k a b => by rw [e20, e19]; exact funext fun _ => by rw [upd2_nk a, upd2_nk b]
  have z37 : g20 37 = g10 37 := by
    rw [o20 37 (by decide) (by decide), e16.2 37 (by omega), e14, e13]
    exact funext fun _ => by rw [upd2_nk (by decide), upd2_nk (by decide)]
  refine pc_cb (lates_m (n := n) (by rw [k20 0 (by omega)]; exact hM.1.1) n12) (fun x21 g22 L23 q21 => ?_)
  obtain ⟨rfl, q21⟩ := q21
  rw [fLt_c (k20 2 (by omega))] at q21
  refine pc_some ⟨k20, by rw [z37]; exact n1, by rw [o20 32 (by decide) (by decide)]; exact n2, ?_⟩
  rw [flm_e (d := d), q21, q9', z37]
/-! the answers -/
def UP (Z : Nat → Prop) (x : Int32) : Prop := (x = -1 ∧ ∀ m : Nat, 1 ≤ m → m ≤ 120 → ¬ Z m) ∨ ∃ m : Nat, (1 ≤ m ∧ m ≤ 120) ∧ x.toInt = (m : Int) ∧ Z m ∧ ∀ m', 1 ≤ m' → m' < m → ¬ Z m'
theorem UP.u {Z : Nat → Prop} {x y : Int32} (h : UP Z x) (h' : UP Z y) : x = y := by
  rcases h with ⟨a, b⟩ | ⟨m, ⟨m1, m2⟩, a, b, c⟩
  · rcases h' with ⟨a', -⟩ | ⟨m', ⟨n1, n2⟩, -, b', -⟩
    · rw [a, a']
    · exact absurd b' (b m' n1 n2)
  · rcases h' with ⟨-, b'⟩ | ⟨m', ⟨n1, n2⟩, a', b', c'⟩
    · exact absurd b (b' m m1 m2)
    · rcases (by omega : m < m' ∨ m = m' ∨ m' < m) with e | e | e
      · exact absurd b (c' m m1 e)
      · exact ic_eq.mpr (by omega)
      · exact absurd b' (c m' n1 e)
def DN (Z : Nat → Prop) (x : Int32) : Prop := (x = 0 ∧ ∀ m : Nat, 1 ≤ m → m ≤ 120 → ¬ Z m) ∨ ∃ m : Nat, (1 ≤ m ∧ m ≤ 120) ∧ x.toInt = (m : Int) ∧ Z m ∧ ∀ m', m < m' → m' ≤ 120 → ¬ Z m'
theorem DN.u {Z : Nat → Prop} {x y : Int32} (h : DN Z x) (h' : DN Z y) : x = y := by
  rcases h with ⟨a, b⟩ | ⟨m, ⟨m1, m2⟩, a, b, c⟩
  · rcases h' with ⟨a', -⟩ | ⟨m', ⟨n1, n2⟩, -, b', -⟩
    · rw [a, a']
    · exact absurd b' (b m' n1 n2)
  · rcases h' with ⟨-, b'⟩ | ⟨m', ⟨n1, n2⟩, a', b', c'⟩
    · exact absurd b (b' m m1 m2)
    · rcases (by omega : m < m' ∨ m = m' ∨ m' < m) with e | e | e
      · exact absurd b' (c m' e n2)
      · exact ic_eq.mpr (by omega)
      · exact absurd b (c' m e m2)
/-- m minutes more of l make o later -/
def RZ (cs : Nat → List Int) (n : Nat) (d : gT) (l o : Nat) (p1 : Int32) (m : Nat) : Prop := ∃ sv en, EN cs n d sv ∧ EN cs n (mo d l (Int32.ofInt (m : Int)) p1) en ∧ ¬ en o ≤ sv o
/-- m minutes more of l make none but l later -/
def DZ (cs : Nat → List Int) (n : Nat) (d : gT) (l : Nat) (p1 : Int32) (m : Nat) : Prop := ∃ sv en, EN cs n d sv ∧ EN cs n (mo d l (Int32.ofInt (m : Int)) p1) en ∧ (fo (fLB en sv) n &&& (((1 : Int32) <<< (p1 &&& 31)) ^^^ -1)) = 0
theorem rz_iff {cs : Nat → List Int} {n l o m : Nat} {d : gT} {p1 : Int32} {sv en : Nat → Int32} (hW : WF n d) (on : o < n) (h1 : EN cs n d sv) (h2 : EN cs n (mo d l (Int32.ofInt (m : Int)) p1) en) : RZ cs n d l o p1 m ↔ ¬ en o ≤ sv o := by
  constructor
  · intro ⟨sv', en', a, b, c⟩
    rw [EN.u hW h1 a o on, EN.u (wf_mo hW) h2 b o on]; exact c
  · intro c; exact ⟨_, _, h1, h2, c⟩
theorem flb_u {cs : Nat → List Int} {n : Nat} {d d' : gT} {sv en sv' en' : Nat → Int32} (hW : WF n d) (hW' : WF n d') (h1 : EN cs n d sv) (h2 : EN cs n d' en) (h1' : EN cs n d sv') (h2' : EN cs n d' en') : fo (fLB en sv) n = fo (fLB en' sv') n :=
  fo_c (fun i hi a => by unfold fLB; rw [EN.u hW h1 h1' i hi, EN.u hW' h2 h2' i hi])
theorem dz_iff {cs : Nat → List Int} {n l m : Nat} {d : gT} {p1 : Int32} {sv en : Nat → Int32} (hW : WF n d) (h1 : EN cs n d sv) (h2 : EN cs n (mo d l (Int32.ofInt (m : Int)) p1) en) : DZ cs n d l p1 m ↔ (fo (fLB en sv) n &&& (((1 : Int32) <<< (p1 &&& 31)) ^^^ -1)) = 0 := by
  constructor
  · intro ⟨sv', en', a, b, c⟩
    rw [flb_u hW (wf_mo hW) h1 h2 a b]; exact c
  · intro c; exact ⟨_, _, h1, h2, c⟩
/-- what holds while trials of more minutes go on -/
def TM (cs : Nat → List Int) (n l : Nat) (d g g' : gT) : Prop := (∀ k, k ≠ 49 → k ≠ 21 → (k < 43 ∨ 48 < k) → g' k = g k) ∧ (∀ i, i < l → LD cs d (g' 43) (g' 44) (g' 45) (g' 46) i) ∧ EN cs n d (g' 49)
theorem tm_0 {cs : Nat → List Int} {n l fu : Nat} {g d : gT} {L : lT} (h : DC cs n g d) (ln : l < n) : Pc (fX10_keepEnds_9 fu g L) (fun _ g1 _ => TM cs n l d g g1) := by
  refine pc_mo (keep_x h) (fun _ g1 _ e => ⟨e.1, fun i hi => e.2.1 i (by omega), ?_⟩)
  have n12 := h.1.2
  exact EN.c h.2.2.2.1 ⟨_, _, _, e.2.1⟩ (fun i hi => (e.2.2 i (by omega)).symm)
theorem tm_c {cs : Nat → List Int} {n l : Nat} {d g g' : gT} (h : DC cs n g d) (t : TM cs n l d g g') : DC cs n g' d := h.c3 (fun k a => t.1 k (by omega) (by omega) (by omega))
theorem tm_s {cs : Nat → List Int} {n l fu : Nat} {p1 p2 : Int32} {g g' d : gT} {L : lT} (h : DC cs n g d) (h61 : d 0 61 = -1) (hl : p1.toInt = (l : Int)) (ln : l < n) (t : TM cs n l d g g') : Pc (fX10_runMore_9 fu p1 p2 g' L) (fun _ g1 _ => TM cs n l d g g1 ∧ EN cs n (mo d l p2 p1) (g1 44)) := by
  refine pc_mo (more_x (tm_c h t) h61 hl ln t.2.1) (fun _ g1 _ e => ⟨⟨fun k a b c => (e.1 k b c).trans (t.1 k a b c), e.2.1, ?_⟩, e.2.2⟩)
  rw [e.1 49 (by decide) (by omega)]; exact t.2.2
theorem reach_x {cs : Nat → List Int} {n l o fu : Nat} {p1 p2 : Int32} {g d : gT} {L : lT} (h : DC cs n g d) (h61 : d 0 61 = -1) (hl : p1.toInt = (l : Int)) (ln : l < n) (ho : p2.toInt = (o : Int)) (on : o < n) : Pc (fX10_leastThatReaches_9 fu p1 p2 g L) (fun x _ _ => UP (RZ cs n d l o p1) x) := by
  have hW := h.2.2.2.1
  have n12 := h.1.2
  have eo : p2.toNatClampNeg = o := by rw [nc, ho]; omega
  unfold fX10_leastThatReaches_9
  refine pc_cb (tm_0 h ln) (fun _ g2 L3 t2 => ?_)
  unfold fX10_leastThatReaches_9_l6
  refine pc_loop (fun v => ∃ m : Nat, v.1.toInt = (m : Int) ∧ 1 ≤ m ∧ m ≤ 121 ∧ TM cs n l d g v.2.1 ∧ ∀ m', 1 ≤ m' → m' < m → ¬ RZ cs n d l o p1 m') (fun k6 hk v hv => ?_) ⟨1, rfl, by omega, by omega, t2, fun m' a b => by omega⟩
  obtain ⟨v3, g', L'⟩ := v
  obtain ⟨m, hm, m1, m2, t, hz⟩ := hv
  replace hm : v3.toInt = (m : Int) := hm
  replace t : TM cs n l d g g' := t
  show Pc (fX10_leastThatReaches_9_s6 fu p1 p2 k6 v3 g' L') _
  unfold fX10_leastThatReaches_9_s6
  have i120 : (120 : Int32).toInt = 120 := rfl
  refine pc_ite (fun c => pc_some (Or.inl ⟨rfl, fun m' a b => hz m' a ?_⟩)) (fun c => ?_)
  · have c := icc_lt i120 hm c
    omega
  have c := icc_nlt i120 hm c
  have vm : Int32.ofInt (m : Int) = v3 := by rw [← hm]; exact io_i
  refine pc_cb (tm_s h h61 hl ln t) (fun _ g7 L8 e7 => ?_)
  obtain ⟨t7, n7⟩ := e7
  have iff : RZ cs n d l o p1 m ↔ ¬ g7 44 o ≤ g7 49 o := rz_iff hW on t7.2.2 (by rw [vm]; exact n7)
  rw [eo]
  refine pc_ck (fun _ _ => pc_ck (fun _ _ => pc_ite (fun c1 => hk _ ⟨m + 1, ?_, by omega, by omega, t7, fun m' a b => ?_⟩) (fun c1 => pc_some (Or.inr ⟨m, by omega, hm, iff.mpr c1, hz⟩))))
  · show (v3 + 1).toInt = _
    rw [ic_addc hm (n := 1) rfl (by omega) (by omega)]; omega
  · by_cases q : m' = m
    · rw [q]; exact fun hh => iff.mp hh c1
    · exact hz m' a (by omega)
theorem reach_m {cs : Nat → List Int} {n l o fu : Nat} {p1 p2 : Int32} {d : gT} {L : lT} (hM : MD cs n d) (h61 : d 0 61 = -1) (hl : p1.toInt = (l : Int)) (ln : l < n) (ho : p2.toInt = (o : Int)) (on : o < n) : Pc (fX12_reaches_l43 fu p1 p2 1 d L) (fun x g1 _ => g1 0 = d 0 ∧ UP (RZ cs n d l o p1) x) := by
  have hW := hM.2.1
  have n12 := hM.1.2
  have po : p2 = Int32.ofInt (o : Int) := by rw [← ho]; exact io_i.symm
  unfold fX12_reaches_l43
  refine pc_loop (fun v => ∃ m : Nat, v.1.toInt = (m : Int) ∧ 1 ≤ m ∧ m ≤ 121 ∧ (∀ k, k < 29 → v.2.1 k = d k) ∧ ∀ m', 1 ≤ m' → m' < m → ¬ RZ cs n d l o p1 m') (fun k43 hk v hv => ?_) ⟨1, rfl, by omega, by omega, fun _ _ => rfl, fun m' a b => by omega⟩
  obtain ⟨v3, g', L'⟩ := v
  obtain ⟨m, hm, m1, m2, e, hz⟩ := hv
  replace hm : v3.toInt = (m : Int) := hm
  replace e : ∀ k, k < 29 → g' k = d k := e
  show Pc (fX12_reaches_s43 fu p1 p2 k43 v3 g' L') _
  unfold fX12_reaches_s43
  have i120 : (120 : Int32).toInt = 120 := rfl
  refine pc_ite (fun c => pc_some ⟨e 0 (by omega), Or.inl ⟨rfl, fun m' a b => hz m' a ?_⟩⟩) (fun c => ?_)
  · have c := icc_lt i120 hm c
    omega
  have c := icc_nlt i120 hm c
  have vm : Int32.ofInt (m : Int) = v3 := by rw [← hm]; exact io_i
  refine pc_cb (moreBy_m hM e h61 hl (by omega)) (fun x18 g19 L20 q => ?_)
  obtain ⟨e19, n1, n2, -⟩ := q
  refine pc_cb (later_m (n := n) (by rw [e19 0 (by omega)]; exact hM.1.1) n12) (fun x22 g23 L24 q => ?_)
  obtain ⟨rfl, q⟩ := q
  have iff : RZ cs n d l o p1 m ↔ ¬ g23 32 o ≤ g23 37 o := rz_iff hW on n1 (by rw [vm]; exact n2)
  have ib : (x22 >>> (p2 &&& 31)) &&& 1 = 1 ↔ ¬ g23 32 o ≤ g23 37 o := by
    rw [po]
    show stb x22 o = 1 ↔ _
    rw [stb_1i (by omega), q]
    exact (flb_t (by omega) n n12).trans ⟨fun h => h.2, fun h => ⟨on, h⟩⟩
  refine pc_ite (fun c1 => pc_some ⟨e19 0 (by omega), Or.inr ⟨m, by omega, hm, iff.mpr (ib.mp c1), hz⟩⟩) (fun c1 => hk _ ⟨m + 1, ?_, by omega, by omega, e19, fun m' a b => ?_⟩)
  · show (v3 + 1).toInt = _
    rw [ic_addc hm (n := 1) rfl (by omega) (by omega)]; omega
  · by_cases q' : m' = m
    · rw [q']; exact fun hh => c1 (ib.mpr (iff.mp hh))
    · exact hz m' a (by omega)
theorem slack_x {cs : Nat → List Int} {n l fu : Nat} {p1 : Int32} {g d : gT} {L : lT} (h : DC cs n g d) (h61 : d 0 61 = -1) (hl : p1.toInt = (l : Int)) (ln : l < n) : Pc (fX10_mostThatDies_9 fu p1 g L) (fun x _ _ => DN (DZ cs n d l p1) x) := by
  have hW := h.2.2.2.1
  have n12 := h.1.2
  unfold fX10_mostThatDies_9
  refine pc_cb (tm_0 h ln) (fun _ g2 L3 t2 => ?_)
  unfold fX10_mostThatDies_9_l7
  refine pc_loop (fun v => ∃ m : Nat, v.1.toInt = (m : Int) ∧ m ≤ 120 ∧ TM cs n l d g v.2.1 ∧ ∀ m', m < m' → m' ≤ 120 → ¬ DZ cs n d l p1 m') (fun k7 hk v hv => ?_) ⟨120, rfl, by omega, t2, fun m' a b => by omega⟩
  obtain ⟨v2, g', L'⟩ := v
  obtain ⟨m, hm, m2, t, hz⟩ := hv
  replace hm : v2.toInt = (m : Int) := hm
  replace t : TM cs n l d g g' := t
  show Pc (fX10_mostThatDies_9_s7 fu p1 k7 v2 g' L') _
  unfold fX10_mostThatDies_9_s7
  refine pc_ite (fun c => pc_some (Or.inl ⟨rfl, fun m' a b => hz m' ?_ b⟩)) (fun c => ?_)
  · have c := icc_le hm (n := 0) rfl c
    omega
  have c := icc_nle hm (n := 0) rfl c
  have vm : Int32.ofInt (m : Int) = v2 := by rw [← hm]; exact io_i
  refine pc_cb (tm_s h h61 hl ln t) (fun _ g7 L8 e7 => ?_)
  obtain ⟨t7, n7⟩ := e7
  refine pc_cb (bits_x (tm_c h t7)) (fun x10 g11 L12 q => ?_)
  obtain ⟨rfl, q⟩ := q
  have iff : DZ cs n d l p1 m ↔ (x10 &&& (((1 : Int32) <<< (p1 &&& 31)) ^^^ -1)) = 0 := by
    rw [q]; exact dz_iff hW t7.2.2 (by rw [vm]; exact n7)
  refine pc_ite (fun c1 => pc_some (Or.inr ⟨m, by omega, hm, iff.mpr c1, hz⟩)) (fun c1 => hk _ ⟨m - 1, ?_, by omega, t7, fun m' a b => ?_⟩)
  · show (v2 + (-1)).toInt = _
    rw [ic_addc hm (n := -1) rfl (by omega) (by omega)]; omega
  · by_cases q' : m' = m
    · rw [q']; exact fun hh => c1 (iff.mp hh)
    · exact hz m' (by omega) b
theorem slack_m {cs : Nat → List Int} {n l fu : Nat} {p1 : Int32} {d : gT} {L : lT} (hM : MD cs n d) (h61 : d 0 61 = -1) (hl : p1.toInt = (l : Int)) (ln : l < n) : Pc (fX12_slack_l18 fu p1 120 d L) (fun x g1 _ => g1 0 = d 0 ∧ DN (DZ cs n d l p1) x) := by
  have hW := hM.2.1
  have n12 := hM.1.2
  unfold fX12_slack_l18
  refine pc_loop (fun v => ∃ m : Nat, v.1.toInt = (m : Int) ∧ m ≤ 120 ∧ (∀ k, k < 29 → v.2.1 k = d k) ∧ ∀ m', m < m' → m' ≤ 120 → ¬ DZ cs n d l p1 m') (fun k18 hk v hv => ?_) ⟨120, rfl, by omega, fun _ _ => rfl, fun m' a b => by omega⟩
  obtain ⟨v2, g', L'⟩ := v
  obtain ⟨m, hm, m2, e, hz⟩ := hv
  replace hm : v2.toInt = (m : Int) := hm
  replace e : ∀ k, k < 29 → g' k = d k := e
  show Pc (fX12_slack_s18 fu p1 k18 v2 g' L') _
  unfold fX12_slack_s18
  refine pc_ite (fun c => pc_some ⟨e 0 (by omega), Or.inl ⟨rfl, fun m' a b => hz m' ?_ b⟩⟩) (fun c => ?_)
  · have c := icc_le hm (n := 0) rfl c
    omega
  have c := icc_nle hm (n := 0) rfl c
  have vm : Int32.ofInt (m : Int) = v2 := by rw [← hm]; exact io_i
  refine pc_cb (moreBy_m hM e h61 hl (by omega)) (fun x8 g9 L10 q => ?_)
  obtain ⟨e9, n1, n2, -⟩ := q
  refine pc_cb (later_m (n := n) (by rw [e9 0 (by omega)]; exact hM.1.1) n12) (fun x12 g13 L14 q => ?_)
  obtain ⟨rfl, q⟩ := q
  have iff : DZ cs n d l p1 m ↔ (x12 &&& (((1 : Int32) <<< (p1 &&& 31)) ^^^ -1)) = 0 := by
    rw [q]; exact dz_iff hW n1 (by rw [vm]; exact n2)
  refine pc_ite (fun c1 => pc_some ⟨e9 0 (by omega), Or.inr ⟨m, by omega, hm, iff.mpr c1, hz⟩⟩) (fun c1 => hk _ ⟨m - 1, ?_, by omega, e9, fun m' a b => ?_⟩)
  · show (v2 + (-1)).toInt = _
    rw [ic_addc hm (n := -1) rfl (by omega) (by omega)]; omega
  · by_cases q' : m' = m
    · rw [q']; exact fun hh => c1 (iff.mp hh)
    · exact hz m' (by omega) b
