/-! ===== the ways that lead over the stair ===== -/
abbrev W2 : Type := List (Nat × Nat)
/-- of a lesson's ways, the first k -/
def wk (d : gT) (i : Nat) : Nat → W2
  | 0 => []
  | k + 1 => wk d i k ++ (if (5 ≤ (d 12 (24 + wf0 d i k)).toInt ↔ 5 ≤ (d 12 (24 + i)).toInt) then [] else [(wf0 d i k, i)])
def wl (d : gT) : Nat → W2
  | 0 => []
  | i + 1 => wl d i ++ wk d i (d 8 i).toInt.toNat
theorem wk_len {d : gT} {i : Nat} : ∀ k, (wk d i k).length ≤ k := by
  intro k
  induction k with
  | zero => exact Nat.le_refl _
  | succ k ih =>
    unfold wk
    rw [List.length_append]
    split
    · show _ + 0 ≤ _; omega
    · show _ + 1 ≤ _; omega
theorem wl_len {d : gT} {n : Nat} (h : ∀ i, i < n → (d 8 i).toInt.toNat ≤ 6) : ∀ i, i ≤ n → (wl d i).length ≤ 6 * i := by
  intro i
  induction i with
  | zero => intro _; exact Nat.le_refl _
  | succ i ih =>
    intro hi
    unfold wl
    rw [List.length_append]
    have a := ih (by omega)
    have b := wk_len (d := d) (i := i) (d 8 i).toInt.toNat
    have c := h i (by omega)
    omega
/-- a way: from a lesson ahead, over the stair -/
def WO (d : gT) (n : Nat) (p : Nat × Nat) : Prop := p.1 < p.2 ∧ p.2 < n ∧ ¬ (5 ≤ (d 12 (24 + p.1)).toInt ↔ 5 ≤ (d 12 (24 + p.2)).toInt)
theorem wk_o {d : gT} {n i : Nat} (hW : WF n d) (hi : i < n) : ∀ k, k ≤ (d 8 i).toInt.toNat → ∀ p ∈ wk d i k, WO d n p := by
  intro k
  induction k with
  | zero => intro _ p hp; exact absurd hp List.not_mem_nil
  | succ k ih =>
    intro hk p hp
    unfold wk at hp
    rcases List.mem_append.mp hp with hp | hp
    · exact ih (by omega) p hp
    · split at hp
      · exact absurd hp List.not_mem_nil
      · rename_i c
        rw [List.mem_singleton.mp hp]
        exact ⟨wf_lt hW hi (by omega), hi, c⟩
theorem wl_o {d : gT} {n : Nat} (hW : WF n d) : ∀ i, i ≤ n → ∀ p ∈ wl d i, WO d n p := by
  intro i
  induction i with
  | zero => intro _ p hp; exact absurd hp List.not_mem_nil
  | succ i ih =>
    intro hi p hp
    unfold wl at hp
    rcases List.mem_append.mp hp with hp | hp
    · exact ih (by omega) p hp
    · exact wk_o hW (by omega) _ (Nat.le_refl _) p hp
def upv (d : gT) (i : Nat) : Int32 := if 5 ≤ (d 12 (24 + i)).toInt then 1 else 0
/-- the ways as the class holds them; as the reference does -/
def WX (d : gT) (en : Nat → Int32) (l : W2) (g : gT) : Prop := (g 12 5).toInt = (l.length : Int) ∧ ∀ (w : Nat) (p : Nat × Nat), l[w]? = some p → g 53 w = en p.1 ∧ g 54 w = en p.1 + wy d p.1 p.2 ∧ g 55 w = d 4 p.1 ∧ g 56 w = upv d p.2
def WY (d : gT) (en : Nat → Int32) (l : W2) (g : gT) : Prop := (g 0 79).toInt = (l.length : Int) ∧ ∀ (w : Nat) (p : Nat × Nat), l[w]? = some p → (g 44 w).toInt = (p.1 : Int) ∧ g 45 w = en p.1 ∧ g 46 w = wy d p.1 p.2 ∧ g 47 w = upv d p.2
theorem ap_1 {l : W2} {p q : Nat × Nat} {w : Nat} (h : (l ++ [p])[w]? = some q) : (w < l.length ∧ l[w]? = some q) ∨ (w = l.length ∧ q = p) := by
  rw [List.getElem?_append] at h
  by_cases c : w < l.length
  · rw [if_pos c] at h; exact Or.inl ⟨c, h⟩
  · rw [if_neg c] at h
    cases hk : w - l.length with
    | zero =>
      rw [hk] at h
      have h : some p = some q := h
      cases h
      exact Or.inr ⟨by omega, rfl⟩
    | succ k =>
      rw [hk] at h
      exact nomatch h
theorem nar_b {x : Int32} (h : x = 1 ∨ x = 0) : vp_nar .boolean x = x := by
  rcases h with rfl | rfl <;> rfl
theorem upv_x {d : gT} {i : Nat} {x r : Int32} (hr : r = d 12 (24 + i)) (h : (x = 1 ∧ 5 ≤ r.toInt) ∨ (x = 0 ∧ r.toInt < 5)) : (x = 1 ∨ x = 0) ∧ x = upv d i ∧ (x = 1 ↔ 5 ≤ (d 12 (24 + i)).toInt) := by
  rw [hr] at h
  unfold upv
  rcases h with ⟨a, b⟩ | ⟨a, b⟩
  · rw [if_pos b]; exact ⟨Or.inl a, a, fun _ => b, fun _ => a⟩
  · rw [if_neg (by omega)]
    refine ⟨Or.inr a, a, fun q => ?_, fun q => by omega⟩
    rw [a] at q; exact absurd q (by decide)
theorem addWay_x {cs : Nat → List Int} {n j i fu : Nat} {p1 p2 : Int32} {g d : gT} {L : lT} {l : W2} (h : DC cs n g d) (hj : p1.toInt = (j : Int)) (hi : p2.toInt = (i : Int)) (jn : j < n) (ni : i < n) (hl : l.length < 72) (hw : WX d (g 44) l g) : Pc (fX9_addWay_12 fu p1 p2 g L) (fun _ g1 _ => WX d (g 44) (l ++ [(j, i)]) g1 ∧ ∀ k, k ≠ 12 → (k < 53 ∨ 56 < k) → g1 k = g k) := by
  have n12 := h.1.2
  have ej : p1.toNatClampNeg = j := by rw [nc, hj]; omega
  have ei : p2.toNatClampNeg = i := by rw [nc, hi]; omega
  have eM : (g 12 5).toNatClampNeg = l.length := by rw [nc, hw.1]; omega
  have cell : ∀ g' : gT, (∀ k, k ≠ 12 → (k < 53 ∨ 56 < k) → g' k = g k) → DC cs n g' d := fun g' e => h.c3 (fun k a => e k (by omega) (by omega))
  unfold fX9_addWay_12 fX9_addWay_12_p106
  refine pc_ite (fun c => ?_) (fun c => ?_)
  · have c := icc_le (m := 72) rfl hw.1 c
    omega
  rw [ej, eM]
  refine pc_ck (fun _ _ => pc_ck (fun _ _ => pc_st (fun g2 e2 => pc_ck (fun _ _ => ?_))))
  have o2 : ∀ k, k ≠ 53 → g2 k = g k := fun k hk => by rw [e2]; exact funext fun _ => upd2_nk hk
  refine pc_cb (way_x (cell g2 (fun k _ b => o2 k (by omega))) hj hi jn ni) (fun x3 g4 L5 q3 => ?_)
  obtain ⟨rfl, q3⟩ := q3
  rw [o2 12 (by decide), eM, o2 44 (by decide)]
  refine pc_ck (fun _ _ => pc_st (fun g7 e7 => ?_))
  have o7 : ∀ k, k ≠ 53 → k ≠ 54 → g7 k = g k := fun k a b => by rw [e7, ← o2 k a]; exact funext fun _ => upd2_nk b
  rw [o7 12 (by decide) (by decide), eM, show j % 12 = j by omega]
  refine pc_ck (fun _ _ => pc_ltn (fun q8 eq8 => ?_))
  subst eq8
  rw [o7 (57 + j) (by omega) (by omega), (h.2.1 j jn).1.1.2.2.2]
  refine pc_ck (fun _ _ => pc_st (fun g9 e9 => ?_))
  have o9 : ∀ k, k ≠ 53 → k ≠ 54 → k ≠ 55 → g9 k = g k := fun k a b c => by rw [e9, ← o7 k a b]; exact funext fun _ => upd2_nk c
  refine pc_cb up_x (fun x10 g11 L12 q10 => ?_)
  obtain ⟨rfl, q10⟩ := q10
  rw [ei, o9 27 (by decide) (by decide) (by decide)] at q10
  obtain ⟨b1, b2, -⟩ := upv_x (d := d) (i := i) (h.2.1 i ni).2.2.2.1 q10
  rw [o9 12 (by decide) (by decide) (by decide), eM, nar_b b1, b2]
  refine pc_ck (fun _ _ => pc_st (fun g14 e14 => ?_))
  have o14 : ∀ k, k ≠ 53 → k ≠ 54 → k ≠ 55 → k ≠ 56 → g14 k = g k := fun k a b c e => by rw [e14, ← o9 k a b c]; exact funext fun _ => upd2_nk e
  refine pc_st (fun g15 e15 => pc_some ⟨⟨?_, fun w p hp => ?_⟩, fun k a b => ?_⟩)
  · rw [e15, upd2_at, o14 12 (by decide) (by decide) (by decide) (by decide), ic_addc hw.1 (n := 1) rfl (by omega) (by omega), List.length_append]
    show _ = ((l.length + 1 : Nat) : Int)
    omega
  · have z53 : ∀ w, g15 53 w = upd2 g 53 l.length (g 44 j) 53 w := fun w => by
      rw [e15, upd2_nk (by decide), e14, upd2_nk (by decide), e9, upd2_nk (by decide), e7, upd2_nk (by decide), e2]
    have z54 : ∀ w, g15 54 w = upd2 g 54 l.length (g 44 j + wy d j i) 54 w := fun w => by
      rw [e15, upd2_nk (by decide), e14, upd2_nk (by decide), e9, upd2_nk (by decide), e7, q3]
      by_cases c : w = l.length
      · rw [c, upd2_at, upd2_at]
      · rw [upd2_nj c, upd2_nj c, o2 54 (by decide)]
    have z55 : ∀ w, g15 55 w = upd2 g 55 l.length (d 4 j) 55 w := fun w => by
      rw [e15, upd2_nk (by decide), e14, upd2_nk (by decide), e9]
      by_cases c : w = l.length
      · rw [c, upd2_at, upd2_at]
      · rw [upd2_nj c, upd2_nj c, o7 55 (by decide) (by decide)]
    have z56 : ∀ w, g15 56 w = upd2 g 56 l.length (upv d i) 56 w := fun w => by
      rw [e15, upd2_nk (by decide), e14]
      by_cases c : w = l.length
      · rw [c, upd2_at, upd2_at]
      · rw [upd2_nj c, upd2_nj c, o9 56 (by decide) (by decide) (by decide)]
    rw [z53, z54, z55, z56]
    rcases ap_1 hp with ⟨c, hq⟩ | ⟨c, hq⟩
    · have ne : w ≠ l.length := by omega
      rw [upd2_nj ne, upd2_nj ne, upd2_nj ne, upd2_nj ne]
      exact hw.2 w p hq
    · rw [c, hq, upd2_at, upd2_at, upd2_at, upd2_at]
      exact ⟨rfl, rfl, rfl, rfl⟩
  · rw [e15, ← o14 k (by omega) (by omega) (by omega) (by omega)]
    exact funext fun _ => upd2_nk a
theorem gather_x {cs : Nat → List Int} {n fu : Nat} {g d : gT} {L : lT} (h : DC cs n g d) : Pc (fX9_gather_12 fu g L) (fun _ g1 _ => DC cs n g1 d ∧ DY cs d n (g1 43) (g1 44) (g1 45) (g1 46) ∧ WX d (g1 44) (wl d n) g1) := by
  have hW := h.2.2.2.1
  have n12 := h.1.2
  have h8 : ∀ i, i < n → (d 8 i).toInt.toNat ≤ 6 := fun i hi => by have := (h.2.2.2.2.1 i hi).2; omega
  unfold fX9_gather_12
  refine pc_cb (rf_x h (f := 0) rfl (Nat.zero_le _)) (fun _ g2 L3 e2 => pc_st (fun g5 e5 => ?_))
  have h2 : DC cs n g2 d := h.c e2.2.2
  have cell : ∀ g' : gT, (∀ k, k ≠ 12 → (k < 53 ∨ 56 < k) → g' k = g2 k) → DC cs n g' d := fun g' e => h2.c3 (fun k a => e k (by omega) (by omega))
  have k5 : ∀ k, k ≠ 12 → g5 k = g2 k := fun k hk => by rw [e5]; exact funext fun _ => upd2_nk hk
  unfold fX9_gather_12_l15
  refine pc_loop (fun v => ∃ i : Nat, v.1.toInt = (i : Int) ∧ i ≤ n ∧ (∀ k, k ≠ 12 → (k < 53 ∨ 56 < k) → v.2.1 k = g2 k) ∧ WX d (g2 44) (wl d i) v.2.1) (fun k15 hk v hv => ?_) ⟨0, rfl, by omega, fun k a _ => k5 k a, ⟨by show (g5 12 5).toInt = 0; rw [e5, upd2_at]; rfl, fun w p hp => nomatch hp⟩⟩
  obtain ⟨v1, g', L'⟩ := v
  obtain ⟨i, hi, ni, ek, hw⟩ := hv
  replace hi : v1.toInt = (i : Int) := hi
  replace ek : ∀ k, k ≠ 12 → (k < 53 ∨ 56 < k) → g' k = g2 k := ek
  replace hw : WX d (g2 44) (wl d i) g' := hw
  show Pc (fX9_gather_12_s15 fu k15 v1 g' L') _
  unfold fX9_gather_12_s15
  have h' := cell g' ek
  refine pc_ite (fun c => pc_some ?_) (fun c => ?_)
  · have c := icc_le h'.1.1 hi c
    have em : i = n := by omega
    rw [em] at hw
    refine ⟨h', ?_, ?_⟩
    · rw [ek 43 (by decide) (by omega), ek 44 (by decide) (by omega), ek 45 (by decide) (by omega), ek 46 (by decide) (by omega)]
      exact fun i hi => e2.1 i (Nat.zero_le _) hi
    · rw [ek 44 (by decide) (by omega)]; exact hw
  have c := icc_nle h'.1.1 hi c
  have i' : i < n := by omega
  have b8 := (h.2.2.2.2.1 i i').2
  have ei : v1.toNatClampNeg = i := by rw [nc, hi]; omega
  obtain ⟨N, hN⟩ : ∃ N : Nat, (d 8 i).toInt = (N : Int) := ⟨(d 8 i).toInt.toNat, by omega⟩
  have hNn : (d 8 i).toInt.toNat = N := by omega
  have f1 : ∀ g'' : gT, (∀ k, k ≠ 12 → (k < 53 ∨ 56 < k) → g'' k = g2 k) → g'' (57 + i) 1 = d 8 i := fun g'' e => by
    rw [e (57 + i) (by omega) (by omega)]; exact (h2.2.1 i i').1.2.1.2.2.2
  have fw : ∀ k : Nat, (k : Int) < (d 8 i).toInt → g2 (81 + i) k = d 9 (6 * i + k) := (h2.2.1 i i').1.2.2.2
  have wln := wl_len h8 i (by omega)
  rw [ei, show i % 12 = i by omega]
  refine pc_ck (fun _ _ => pc_ltn (fun q eq => ?_))
  subst eq
  unfold fX9_gather_12_l44
  refine pc_loop (fun v => ∃ k : Nat, v.1.toInt = (k : Int) ∧ k ≤ N ∧ (∀ k, k ≠ 12 → (k < 53 ∨ 56 < k) → v.2.1 k = g2 k) ∧ WX d (g2 44) (wl d i ++ wk d i k) v.2.1) (fun k44 hk2 v hv => ?_) ⟨0, rfl, by omega, ek, by show WX d (g2 44) (wl d i ++ []) g'; rw [List.append_nil]; exact hw⟩
  obtain ⟨v3, g4, L4⟩ := v
  obtain ⟨k, hkk, kN, ek4, hw4⟩ := hv
  replace hkk : v3.toInt = (k : Int) := hkk
  replace ek4 : ∀ k, k ≠ 12 → (k < 53 ∨ 56 < k) → g4 k = g2 k := ek4
  replace hw4 : WX d (g2 44) (wl d i ++ wk d i k) g4 := hw4
  have h4 := cell g4 ek4
  show Pc (fX9_gather_12_s44 fu k15 v1 (57 + i) k44 v3 g4 L4) _
  unfold fX9_gather_12_s44 fX9_gather_12_p87
  have e3 : v3.toNatClampNeg = k := by rw [nc, hkk]; omega
  rw [f1 g4 ek4, e3, show 57 + i + 24 = 81 + i by omega, ek4 (81 + i) (by omega) (by omega)]
  refine pc_ite (fun c1 => hk _ ⟨i + 1, ?_, by omega, ek4, ?_⟩) (fun c1 => ?_)
  · show (v1 + 1).toInt = _
    rw [ic_addc hi (n := 1) rfl (by omega) (by omega)]; omega
  · have c1 := icc_le hN hkk c1
    show WX d (g2 44) (wl d i ++ wk d i (d 8 i).toInt.toNat) g4
    rw [hNn, show N = k by omega]; exact hw4
  have c1 := icc_nle hN hkk c1
  have ew : (v3 + 1).toInt = ((k + 1 : Nat) : Int) := by rw [ic_addc hkk (n := 1) rfl (by omega) (by omega)]; omega
  have jl : wf0 d i k < i := wf_lt hW i' (by omega)
  have wm := (hW i i').2.2 k (by omega)
  refine pc_ck (fun _ _ => pc_lti (fun x9 e9 => ?_))
  rw [fw k (by omega)] at e9
  have h9 : x9.toInt = ((wf0 d i k : Nat) : Int) := by rw [e9]; unfold wf0; omega
  have e9n : x9.toNatClampNeg = wf0 d i k := by rw [nc, h9]; omega
  refine pc_cb up_x (fun x10 g11 L12 q10 => ?_)
  obtain ⟨rfl, q10⟩ := q10
  refine pc_cb up_x (fun x14 g15 L16 q14 => ?_)
  obtain ⟨rfl, q14⟩ := q14
  rw [e9n] at q10
  rw [ei] at q14
  obtain ⟨b1, -, b3⟩ := upv_x (d := d) (i := wf0 d i k) (h4.2.1 _ (by omega)).2.2.2.1 q10
  obtain ⟨c1', -, c3⟩ := upv_x (d := d) (i := i) (h4.2.1 i i').2.2.2.1 q14
  have same : x10 = x14 ↔ (5 ≤ (d 12 (24 + wf0 d i k)).toInt ↔ 5 ≤ (d 12 (24 + i)).toInt) := by
    rw [← b3, ← c3]
    constructor
    · intro q; rw [q]
    · intro q
      rcases b1 with u | u
      · rw [u, q.mp u]
      · rcases c1' with w | w
        · have := q.mpr w; rw [u] at this; exact absurd this (by decide)
        · rw [u, w]
  refine pc_ite (fun c2 => hk2 _ ⟨k + 1, ew, by omega, ek4, ?_⟩) (fun c2 => ?_)
  · show WX d (g2 44) (wl d i ++ (wk d i k ++ (if _ then _ else _))) g15
    rw [if_pos (same.mp c2), List.append_nil]; exact hw4
  · have len : (wl d i ++ wk d i k).length < 72 := by
      rw [List.length_append]
      have := wk_len (d := d) (i := i) k
      omega
    have g44 : g15 44 = g2 44 := ek4 44 (by decide) (by omega)
    refine pc_cb (addWay_x h4 h9 hi (by omega) i' len (by rw [g44]; exact hw4)) (fun _ g20 L21 q20 => hk2 _ ⟨k + 1, ew, by omega, fun k a b => (q20.2 k a b).trans (ek4 k a b), ?_⟩)
    show WX d (g2 44) (wl d i ++ (wk d i k ++ (if _ then _ else _))) g20
    rw [if_neg (fun hh => c2 (same.mpr hh)), ← List.append_assoc, ← g44]
    exact q20.1
theorem wy_c {g d : gT} {j i : Nat} (h12 : g 12 = d 12) (h4 : g 4 = d 4) (h3 : g 0 3 = d 0 3) (h04 : g 0 4 = d 0 4) : wy g j i = wy d j i := by
  unfold wy
  rw [h12, h4, h3, h04]
theorem ways_m {cs : Nat → List Int} {n fu : Nat} {d : gT} {L : lT} (hM : MD cs n d) (hr : ∀ i, i < n → 0 ≤ (d 12 (24 + i)).toInt ∧ (d 12 (24 + i)).toInt ≤ 9) : Pc (fX12_ways fu d L) (fun _ g1 _ => ((∀ k, k ≠ 0 → k < 29 → g1 k = d k) ∧ (∀ j, j ≠ 79 → g1 0 j = d 0 j)) ∧ DY cs d n (g1 31) (g1 32) (g1 33) (g1 34) ∧ WY d (g1 32) (wl d n) g1) := by
  have hW := hM.2.1
  have n12 := hM.1.2
  have h8 : ∀ i, i < n → (d 8 i).toInt.toNat ≤ 6 := fun i hi => by have := hM.2.2.1 i hi; omega
  unfold fX12_ways
  refine pc_cb (wk_m hM) (fun _ g2 L3 e2 => pc_st (fun g5 e5 => ?_))
  have k5 : ∀ k, k ≠ 0 → g5 k = g2 k := fun k hk => by rw [e5]; exact funext fun _ => upd2_nk hk
  have o5 : ∀ j, j ≠ 79 → g5 0 j = g2 0 j := fun j hj => by rw [e5, upd2_nj hj]
  unfold fX12_ways_l11
  refine pc_loop (fun v => ∃ i : Nat, v.1.toInt = (i : Int) ∧ i ≤ n ∧ ((∀ k, k ≠ 0 → k < 44 → v.2.1 k = g2 k) ∧ (∀ j, j ≠ 79 → v.2.1 0 j = g2 0 j)) ∧ WY d (g2 32) (wl d i) v.2.1) (fun k11 hk v hv => ?_) ⟨0, rfl, by omega, ⟨fun k a _ => k5 k a, o5⟩, ⟨by show (g5 0 79).toInt = 0; rw [e5, upd2_at]; rfl, fun w p hp => nomatch hp⟩⟩
  obtain ⟨v1, g', L'⟩ := v
  obtain ⟨i, hi, ni, ⟨ek, eo⟩, hw⟩ := hv
  replace hi : v1.toInt = (i : Int) := hi
  replace ek : ∀ k, k ≠ 0 → k < 44 → g' k = g2 k := ek
  replace eo : ∀ j, j ≠ 79 → g' 0 j = g2 0 j := eo
  replace hw : WY d (g2 32) (wl d i) g' := hw
  show Pc (fX12_ways_s11 fu k11 v1 g' L') _
  unfold fX12_ways_s11
  have e01 : (g' 0 1).toInt = (n : Int) := by rw [eo 1 (by decide), e2.2 0 (by omega)]; exact hM.1.1
  refine pc_ite (fun c => pc_some ?_) (fun c => ?_)
  · have c := icc_le e01 hi c
    have em : i = n := by omega
    rw [em] at hw
    refine ⟨⟨fun k a b => (ek k a (by omega)).trans (e2.2 k (by omega)), fun j hj => by rw [eo j hj, e2.2 0 (by omega)]⟩, ?_, ?_⟩
    · rw [ek 31 (by decide) (by omega), ek 32 (by decide) (by omega), ek 33 (by decide) (by omega), ek 34 (by decide) (by omega)]
      exact e2.1
    · rw [ek 32 (by decide) (by omega)]; exact hw
  have c := icc_nle e01 hi c
  have i' : i < n := by omega
  have b8 := hM.2.2.1 i i'
  have ei : v1.toNatClampNeg = i := by rw [nc, hi]; omega
  have e24 : (24 + v1).toNatClampNeg = 24 + i := by rw [nc, ic_addc (m := 24) rfl hi (by omega) (by omega)]; omega
  obtain ⟨N, hN⟩ : ∃ N : Nat, (d 8 i).toInt = (N : Int) := ⟨(d 8 i).toInt.toNat, by omega⟩
  have hNn : (d 8 i).toInt.toNat = N := by omega
  have wln := wl_len h8 i (by omega)
  unfold fX12_ways_l21
  refine pc_loop (fun v => ∃ k : Nat, v.1.toInt = (k : Int) ∧ k ≤ N ∧ ((∀ k, k ≠ 0 → k < 44 → v.2.1 k = g2 k) ∧ (∀ j, j ≠ 79 → v.2.1 0 j = g2 0 j)) ∧ WY d (g2 32) (wl d i ++ wk d i k) v.2.1) (fun k21 hk2 v hv => ?_) ⟨0, rfl, by omega, ⟨ek, eo⟩, by show WY d (g2 32) (wl d i ++ []) g'; rw [List.append_nil]; exact hw⟩
  obtain ⟨v2, g4, L4⟩ := v
  obtain ⟨k, hkk, kN, ⟨ek4, eo4⟩, hw4⟩ := hv
  replace hkk : v2.toInt = (k : Int) := hkk
  replace ek4 : ∀ k, k ≠ 0 → k < 44 → g4 k = g2 k := ek4
  replace eo4 : ∀ j, j ≠ 79 → g4 0 j = g2 0 j := eo4
  replace hw4 : WY d (g2 32) (wl d i ++ wk d i k) g4 := hw4
  have d4 : ∀ k, k ≠ 0 → k < 29 → g4 k = d k := fun k a b => (ek4 k a (by omega)).trans (e2.2 k (by omega))
  show Pc (fX12_ways_s21 fu k11 v1 k21 v2 g4 L4) _
  unfold fX12_ways_s21 fX12_ways_p155
  have e6 : (6 * v1).toInt = 6 * (i : Int) := ic_mulc (m := 6) rfl hi (by omega) (by omega)
  rw [ei, d4 8 (by decide) (by omega)]
  refine pc_ck (fun _ _ => pc_ite (fun c1 => hk _ ⟨i + 1, ?_, by omega, ⟨ek4, eo4⟩, ?_⟩) (fun c1 => ?_))
  · show (v1 + 1).toInt = _
    rw [ic_addc hi (n := 1) rfl (by omega) (by omega)]; omega
  · have c1 := icc_le hN hkk c1
    show WY d (g2 32) (wl d i ++ wk d i (d 8 i).toInt.toNat) g4
    rw [hNn, show N = k by omega]; exact hw4
  have c1 := icc_nle hN hkk c1
  have e7 : (6 * v1 + v2).toNatClampNeg = 6 * i + k := by rw [nc, ic_addc e6 hkk (by omega) (by omega)]; omega
  have ew : (v2 + 1).toInt = ((k + 1 : Nat) : Int) := by rw [ic_addc hkk (n := 1) rfl (by omega) (by omega)]; omega
  have jl : wf0 d i k < i := wf_lt hW i' (by omega)
  have wm := (hW i i').2.2 k (by omega)
  rw [e7, d4 9 (by decide) (by omega), d4 12 (by decide) (by omega), e24]
  refine pc_ck (fun _ _ => pc_lti (fun x8 e8 => ?_))
  have h8' : x8.toInt = ((wf0 d i k : Nat) : Int) := by rw [e8]; unfold wf0; omega
  have e8n : x8.toNatClampNeg = wf0 d i k := by rw [nc, h8']; omega
  have f24 : (24 + x8).toNatClampNeg = 24 + wf0 d i k := by rw [nc, ic_addc (m := 24) rfl h8' (by omega) (by omega)]; omega
  rw [f24, e8n]
  refine pc_ck (fun _ _ => pc_ck (fun _ _ => pc_cb stair_m (fun x9 g10 L11 q9 => ?_)))
  obtain ⟨rfl, q9⟩ := q9
  refine pc_ite (fun c2 => hk2 _ ⟨k + 1, ew, by omega, ⟨ek4, eo4⟩, ?_⟩) (fun c2 => ?_)
  · show WY d (g2 32) (wl d i ++ (wk d i k ++ (if _ then _ else _))) g10
    rw [if_pos (q9.mp c2), List.append_nil]; exact hw4
  have cross : ¬ (5 ≤ (d 12 (24 + wf0 d i k)).toInt ↔ 5 ≤ (d 12 (24 + i)).toInt) := fun hh => c2 (q9.mpr hh)
  have len : (wl d i ++ wk d i k).length < 72 := by
    rw [List.length_append]
    have := wk_len (d := d) (i := i) k
    omega
  have eM : (g10 0 79).toNatClampNeg = (wl d i ++ wk d i k).length := by rw [nc, hw4.1]; omega
  generalize hl : wl d i ++ wk d i k = l at *
  rw [eM]
  refine pc_ck (fun _ _ => pc_st (fun g14 e14 => pc_ck (fun _ _ => ?_)))
  have o14 : ∀ k, k ≠ 44 → g14 k = g10 k := fun k a => by rw [e14]; exact funext fun _ => upd2_nk a
  rw [o14 0 (by decide), eM, o14 32 (by decide)]
  refine pc_ck (fun _ _ => pc_st (fun g15 e15 => ?_))
  have o15 : ∀ k, k ≠ 44 → k ≠ 45 → g15 k = g10 k := fun k a b => by rw [e15, ← o14 k a]; exact funext fun _ => upd2_nk b
  refine pc_cb (way_m (d := g15) (fun _ _ => rfl) h8' hi (by omega) (by omega)) (fun x16 g17 L18 q16 => ?_)
  obtain ⟨rfl, q16⟩ := q16
  have d15 : ∀ k, k ≠ 0 → k < 29 → g17 k = d k := fun k a b => (o15 k (by omega) (by omega)).trans (d4 k a b)
  rw [wy_c (d15 12 (by decide) (by omega)) (d15 4 (by decide) (by omega)) (by rw [o15 0 (by decide) (by decide), eo4 3 (by decide), e2.2 0 (by omega)]) (by rw [o15 0 (by decide) (by decide), eo4 4 (by decide), e2.2 0 (by omega)])] at q16
  rw [o15 0 (by decide) (by decide), eM]
  refine pc_ck (fun _ _ => pc_st (fun g20 e20 => ?_))
  have o20 : ∀ k, k ≠ 44 → k ≠ 45 → k ≠ 46 → g20 k = g10 k := fun k a b c => by rw [e20, ← o15 k a b]; exact funext fun _ => upd2_nk c
  rw [o20 12 (by decide) (by decide) (by decide), d4 12 (by decide) (by omega), o20 0 (by decide) (by decide) (by decide)]
  have fin : ∀ (t0 : Int32) (La : lT), t0 = upv d i → Pc (fX12_ways_p144 fu k11 k21 v1 v2 t0 (g10 0 79) g20 La) (fun _ g1 _ => ((∀ k, k ≠ 0 → k < 29 → g1 k = d k) ∧ (∀ j, j ≠ 79 → g1 0 j = d 0 j)) ∧ DY cs d n (g1 31) (g1 32) (g1 33) (g1 34) ∧ WY d (g1 32) (wl d n) g1) := by
    intro t0 La ht
    unfold fX12_ways_p144 fX12_ways_p155
    rw [eM]
    refine pc_ck (fun _ _ => pc_st (fun g21 e21 => pc_st (fun g22 e22 => hk2 _ ⟨k + 1, ew, by omega, ⟨fun k a b => ?_, fun j hj => ?_⟩, ?_⟩)))
    · show g22 k = g2 k
      rw [e22, ← ek4 k a b, ← o20 k (by omega) (by omega) (by omega), e21]
      exact funext fun _ => by rw [upd2_nk a, upd2_nk (by omega)]
    · show g22 0 j = g2 0 j
      rw [e22, upd2_nj hj, e21, upd2_nk (by decide), o20 0 (by decide) (by decide) (by decide)]
      exact eo4 j hj
    · show WY d (g2 32) (wl d i ++ (wk d i k ++ (if _ then _ else _))) g22
      rw [if_neg cross, ← List.append_assoc, hl]
      refine ⟨?_, fun w p hp => ?_⟩
      · rw [e22, upd2_at, e21, upd2_nk (by decide), o20 0 (by decide) (by decide) (by decide), ic_addc hw4.1 (n := 1) rfl (by omega) (by omega), List.length_append]
        show _ = ((l.length + 1 : Nat) : Int)
        omega
      · have z44 : ∀ w, g22 44 w = upd2 g10 44 l.length x8 44 w := fun w => by
          rw [e22, upd2_nk (by decide), e21, upd2_nk (by decide), e20, upd2_nk (by decide), e15, upd2_nk (by decide), e14]
        have z45 : ∀ w, g22 45 w = upd2 g10 45 l.length (g10 32 (wf0 d i k)) 45 w := fun w => by
          rw [e22, upd2_nk (by decide), e21, upd2_nk (by decide), e20, upd2_nk (by decide), e15]
          by_cases c : w = l.length
          · rw [c, upd2_at, upd2_at]
          · rw [upd2_nj c, upd2_nj c, o14 45 (by decide)]
        have z46 : ∀ w, g22 46 w = upd2 g10 46 l.length x16 46 w := fun w => by
          rw [e22, upd2_nk (by decide), e21, upd2_nk (by decide), e20]
          by_cases c : w = l.length
          · rw [c, upd2_at, upd2_at]
          · rw [upd2_nj c, upd2_nj c, o15 46 (by decide) (by decide)]
        have z47 : ∀ w, g22 47 w = upd2 g10 47 l.length t0 47 w := fun w => by
          rw [e22, upd2_nk (by decide), e21]
          by_cases c : w = l.length
          · rw [c, upd2_at, upd2_at]
          · rw [upd2_nj c, upd2_nj c, o20 47 (by decide) (by decide) (by decide)]
        rw [z44, z45, z46, z47]
        rcases ap_1 hp with ⟨c, hq⟩ | ⟨c, hq⟩
        · have ne : w ≠ l.length := by omega
          rw [upd2_nj ne, upd2_nj ne, upd2_nj ne, upd2_nj ne]
          exact hw4.2 w p hq
        · rw [c, hq, upd2_at, upd2_at, upd2_at, upd2_at]
          exact ⟨h8', by rw [ek4 32 (by decide) (by omega)], q16, ht⟩
  have ri := hr i i'
  have rj := hr (wf0 d i k) (by omega)
  refine pc_ck (fun _ _ => pc_ck (fun _ _ => pc_ite (fun c3 => fin _ _ ?_) (fun c3 => fin _ _ ?_)))
  · have c3 := ic_le.mp c3
    unfold upv
    rw [if_neg (fun hh => cross ⟨fun _ => hh, fun _ => by omega⟩)]
  · have c3 := icc_nle (m := (d 12 (24 + i)).toInt) (n := (d 12 (24 + wf0 d i k)).toInt) rfl rfl c3
    unfold upv
    rw [if_pos (Classical.byContradiction (fun hh => cross ⟨fun q => absurd (by omega) hh, fun q => absurd q hh⟩))]
