/-! ===== shift answers alike ===== -/
theorem ld_e {cs : Nat → List Int} {d e : gT} {bg en ru by_ : Nat → Int32} {i : Nat} (h0 : e 0 = d 0) (h1 : e 1 i = d 1 i) (h2 : e 2 i = d 2 i) (h3 : e 3 = d 3) (h4 : e 4 = d 4) (h5 : e 5 = d 5) (h6 : e 6 = d 6) (h8 : e 8 = d 8) (h9 : e 9 = d 9) (h12 : e 12 = d 12) (h : LD cs d bg en ru by_ i) : LD cs e bg en ru by_ i := by
  have hc : cmg e = cmg d := by
    funext en i k
    unfold cmg wf0 wy
    rw [h0, h4, h9, h12]
  have ht : ∀ b, tl e b i = tl d b i := fun b => by
    funext j
    match j with
    | 0 => show e 12 i = d 12 i; rw [h12]
    | 1 => show b - e 1 i = b - d 1 i; rw [h1]
    | 2 => rfl
    | 3 => show e 12 (24 + i) = d 12 (24 + i); rw [h12]
    | 4 => show e 4 i = d 4 i; rw [h4]
    | 5 => rfl
    | j + 6 => rfl
  have ho : ∀ b, ov cs e i b = ov cs d i b := fun b => by
    rw [ov_e, ov_e]
    unfold gv
    rw [h0, h12, ht]
  unfold LD LB FC
  rw [hc, ho, h1, h2, h3, h5, h6, h8, h9, h12]
  exact h
/-- from the f-th on is enough, where those ahead stand -/
theorem rf_dl {cs : Nat → List Int} {d e : gT} {f n : Nat} {g g1 : gT} (hT : ∀ i, i < n → i < f → ∀ bg en ru by_, LD cs d bg en ru by_ i → LD cs e bg en ru by_ i) (hWe : WF n e) (h0 : DY cs d n (g 43) (g 44) (g 45) (g 46)) (hR : RF cs e f n g g1) : DY cs e n (g1 43) (g1 44) (g1 45) (g1 46) := by
  intro i hi
  by_cases c : f ≤ i
  · exact hR.1 i c hi
  · have hf : i < f := by omega
    have s := fun j (hj : j ≤ i) => hR.2.1 j (by omega)
    exact (hT i hi hf _ _ _ _ (h0 i hi)).c hWe hi (fun j hj => (s j hj).2.1.symm) (s i (Nat.le_refl _)).1.symm (s i (Nat.le_refl _)).2.2.1.symm (s i (Nat.le_refl _)).2.2.2.symm
/-- a lesson's first and last minute told otherwise -/
def ft (d : gT) (l : Nat) (x y : Int32) : gT := upd2 (upd2 d 1 l x) 2 l y
theorem ft_k {d : gT} {l k : Nat} {x y : Int32} (h1 : k ≠ 1) (h2 : k ≠ 2) : ft d l x y k = d k := funext fun _ => by unfold ft; rw [upd2_nk h2, upd2_nk h1]
theorem ft_1 {d : gT} {l i : Nat} {x y : Int32} (h : i ≠ l) : ft d l x y 1 i = d 1 i := by unfold ft; rw [upd2_nk (by decide), upd2_nj h]
theorem ft_2 {d : gT} {l i : Nat} {x y : Int32} (h : i ≠ l) : ft d l x y 2 i = d 2 i := by unfold ft; rw [upd2_nj h, upd2_nk (by decide)]
theorem ft_1l {d : gT} {l : Nat} {x y : Int32} : ft d l x y 1 l = x := by unfold ft; rw [upd2_nk (by decide), upd2_at]
theorem ft_2l {d : gT} {l : Nat} {x y : Int32} : ft d l x y 2 l = y := by unfold ft; rw [upd2_at]
theorem wf_ft {n l : Nat} {d : gT} {x y : Int32} (hW : WF n d) : WF n (ft d l x y) := wf_e hW (ft_k (by decide) (by decide)) (ft_k (by decide) (by decide)) (ft_k (by decide) (by decide)) (ft_k (by decide) (by decide))
theorem ld_ft {cs : Nat → List Int} {d : gT} {bg en ru by_ : Nat → Int32} {i l : Nat} {x y x' y' : Int32} (hi : i ≠ l) (h : LD cs (ft d l x y) bg en ru by_ i) : LD cs (ft d l x' y') bg en ru by_ i := by
  have kk : ∀ k, k ≠ 1 → k ≠ 2 → ft d l x' y' k = ft d l x y k := fun k a b => by rw [ft_k a b, ft_k a b]
  exact ld_e (kk 0 (by decide) (by decide)) (by rw [ft_1 hi, ft_1 hi]) (by rw [ft_2 hi, ft_2 hi]) (kk 3 (by decide) (by decide)) (kk 4 (by decide) (by decide)) (kk 5 (by decide) (by decide)) (kk 6 (by decide) (by decide)) (kk 8 (by decide) (by decide)) (kk 9 (by decide) (by decide)) (kk 12 (by decide) (by decide)) h
theorem dc_ft {cs : Nat → List Int} {n l : Nat} {x y : Int32} {g d : gT} (h : DC cs n g d) (l12 : l < 12) : DC cs n (upd2 (upd2 g (57 + l) 3 x) (57 + l) 4 y) (ft d l x y) := by
  obtain ⟨a1, a3, a4, a5, a6, a7, a8, a9, a10⟩ := h
  have ek : ∀ k, k ≠ 57 + l → upd2 (upd2 g (57 + l) 3 x) (57 + l) 4 y k = g k := fun k hk => funext fun _ => by rw [upd2_nk hk, upd2_nk hk]
  have ej : ∀ j, j ≠ 3 → j ≠ 4 → upd2 (upd2 g (57 + l) 3 x) (57 + l) 4 y (57 + l) j = g (57 + l) j := fun j h3 h4 => by rw [upd2_nj h4, upd2_nj h3]
  have e8 : ft d l x y 8 = d 8 := ft_k (by decide) (by decide)
  have e9 : ft d l x y 9 = d 9 := ft_k (by decide) (by decide)
  have e12 : ft d l x y 12 = d 12 := ft_k (by decide) (by decide)
  have e0 : ft d l x y 0 = d 0 := ft_k (by decide) (by decide)
  refine ⟨by rw [ek 1 (by omega)]; exact a1, fun i hi => ⟨?_, (a3 i hi).2.c (ek _ (by omega)) (ek _ (by omega)) (ek _ (by omega)) (ek _ (by omega)) e12⟩, ?_, wf_ft a5, ?_, ?_, ?_, ?_, ?_⟩
  · have hn := a1.2
    obtain ⟨⟨y1, y2, y3, y4⟩, ⟨y5, y6, y7, y8⟩, y9, y10⟩ := (a3 i hi).1
    have z : ∀ j, j ≠ 3 → j ≠ 4 → upd2 (upd2 g (57 + l) 3 x) (57 + l) 4 y (57 + i) j = g (57 + i) j := fun j h3 h4 => by
      by_cases hl : i = l
      · rw [hl]; exact ej j h3 h4
      · rw [ek _ (by omega)]
    refine ⟨⟨?_, ?_, ?_, ?_⟩, ⟨?_, ?_, ?_, ?_⟩, ?_, fun k hk => ?_⟩
    · by_cases hl : i = l
      · rw [hl, upd2_nj (by decide), upd2_at, ft_1l]
      · rw [ek _ (by omega), ft_1 hl]; exact y1
    · by_cases hl : i = l
      · rw [hl, upd2_at, ft_2l]
      · rw [ek _ (by omega), ft_2 hl]; exact y2
    · rw [z 5 (by decide) (by decide), ft_k (by decide) (by decide)]; exact y3
    · rw [z 8 (by decide) (by decide), ft_k (by decide) (by decide)]; exact y4
    · rw [z 9 (by decide) (by decide), ft_k (by decide) (by decide)]; exact y5
    · rw [z 10 (by decide) (by decide), ft_k (by decide) (by decide)]; exact y6
    · rw [z 12 (by decide) (by decide), ft_k (by decide) (by decide)]; exact y7
    · rw [z 1 (by decide) (by decide), e8]; exact y8
    · rw [z 2 (by decide) (by decide), e8, wSn_c e9]; exact y9
    · rw [e8] at hk
      rw [e9, ek _ (by omega)]; exact y10 k hk
  · rw [ek 1 (by omega), e0]; exact a4
  · rw [e12, e8]; exact a6
  · rw [ek 6 (by omega), ek 3 (by omega), e0]; exact a7
  · rw [ek 3 (by omega), ek 20 (by omega), ek 19 (by omega)]; exact a8
  · rw [ek 8 (by omega), e0]; exact a9
  · rw [ek 8 (by omega), e0]; exact a10
theorem md_ft {cs : Nat → List Int} {n l : Nat} {x y : Int32} {d : gT} (h : MD cs n d) : MD cs n (ft d l x y) := by
  unfold MD WF
  rw [ft_k (k := 0) (by decide) (by decide), ft_k (k := 5) (by decide) (by decide), ft_k (k := 6) (by decide) (by decide), ft_k (k := 8) (by decide) (by decide), ft_k (k := 9) (by decide) (by decide), ft_k (k := 10) (by decide) (by decide), ft_k (k := 11) (by decide) (by decide)]
  exact h
theorem ft_s {d : gT} {l : Nat} : ft d l (d 1 l) (d 2 l) = d := by
  have e : d 2 l = upd2 d 1 l (d 1 l) 2 l := by rw [upd2_s]
  unfold ft
  rw [e, upd2_s, upd2_s]
theorem em_ft {d g : gT} {l : Nat} {x y x' y' : Int32} (e : Em (ft d l x y) g) : Em (ft d l x' y') (upd2 (upd2 g 1 l x') 2 l y') := by
  intro k hk
  by_cases h2 : k = 2
  · subst h2
    funext j
    by_cases hj : j = l
    · rw [hj, upd2_at, ft_2l]
    · rw [upd2_nj hj, upd2_nk (by decide), e 2 (by omega), ft_2 hj, ft_2 hj]
  · by_cases h1 : k = 1
    · subst h1
      funext j
      by_cases hj : j = l
      · rw [hj, upd2_nk (by decide), upd2_at, ft_1l]
      · rw [upd2_nk (by decide), upd2_nj hj, e 1 (by omega), ft_1 hj, ft_1 hj]
    · funext j
      rw [upd2_nk h2, upd2_nk h1, e k hk, ft_k h1 h2, ft_k h1 h2]
theorem ft_cell {g' g : gT} {q k : Nat} {x y x' y' : Int32} (e : g' k = upd2 (upd2 g q 3 x) q 4 y k) : upd2 (upd2 g' q 3 x') q 4 y' k = upd2 (upd2 g q 3 x') q 4 y' k := by
  by_cases hk : k = q
  · subst hk
    funext j
    by_cases h4 : j = 4
    · rw [h4, upd2_at, upd2_at]
    · rw [upd2_nj h4, upd2_nj h4]
      by_cases h3 : j = 3
      · rw [h3, upd2_at, upd2_at]
      · rw [upd2_nj h3, upd2_nj h3, e, upd2_nj h4, upd2_nj h3]
  · funext j
    rw [upd2_nk hk, upd2_nk hk, e, upd2_nk hk, upd2_nk hk, upd2_nk hk, upd2_nk hk]
def Vs (d : gT) (l : Nat) (r : Int) : Prop := ¬ d 1 l + Int32.ofInt r < 0 ∧ ¬ 999 < d 2 l + Int32.ofInt r
/-- offers by which it is shifted, below m -/
def QS (cs : Nat → List Int) (n : Nat) (d : gT) (l : Nat) (m r : Int) (v : Int32) : Prop := (-20 ≤ r ∧ r < m) ∧ Vs d l r ∧ LV cs n (ft d l (d 1 l + Int32.ofInt r) (d 2 l + Int32.ofInt r)) v
section QSS
variable {cs : Nat → List Int} {n l : Nat} {d : gT} {m : Int}
theorem qs_0 {r : Int} {v : Int32} : ¬ QS cs n d l (-20) r v := fun h => by have := h.1; omega
theorem qs_k (h : ¬ Vs d l m) : ∀ r v, QS cs n d l m r v ↔ QS cs n d l (m + 1) r v := fun r v => by
  constructor
  · intro ⟨a, b, c⟩; exact ⟨by omega, b, c⟩
  · intro ⟨a, b, c⟩
    refine ⟨⟨a.1, ?_⟩, b, c⟩
    by_cases e : r = m
    · rw [e] at b; exact absurd b h
    · omega
theorem qs_s {x : Int32} (hW : WF n d) (h : Vs d l m) (m0 : -20 ≤ m) (hx : LV cs n (ft d l (d 1 l + Int32.ofInt m) (d 2 l + Int32.ofInt m)) x) : ∀ r v, Ad (QS cs n d l m) m x r v ↔ QS cs n d l (m + 1) r v := fun r v => by
  constructor
  · intro hh
    rcases hh with ⟨a, b, c⟩ | ⟨a, b⟩
    · exact ⟨by omega, b, c⟩
    · rw [a, b]; exact ⟨by omega, h, hx⟩
  · intro ⟨a, b, c⟩
    by_cases e : r = m
    · rw [e] at c; exact Or.inr ⟨e, LV.u (wf_ft hW) c hx⟩
    · exact Or.inl ⟨by omega, b, c⟩
end QSS
theorem shift_x {cs : Nat → List Int} {n l fu : Nat} {p1 p2 : Int32} {g d : gT} {L : lT} (h : DC cs n g d) (hl : p1.toInt = (l : Int)) (ln : l < n) : Pc (fX10_leastByShift_9 fu p1 p2 g L) (fun x _ _ => (∃ w, LV cs n d w) ∧ TO (QS cs n d l 21) p2 x) := by
  have hW := h.2.2.2.1
  have n12 := h.1.2
  have l12' : l < 12 := by omega
  have el : p1.toNatClampNeg = l := by rw [nc, hl]; omega
  unfold fX10_leastByShift_9
  rw [el, show l % 12 = l by omega]
  refine pc_ck (fun _ _ => pc_ltn (fun q eq => ?_))
  subst eq
  refine pc_lti (fun x2 e2 => pc_lti (fun x3 e3 => pc_cb (rf_x h (f := 0) rfl (Nat.zero_le _)) (fun _ g5 L6 e5 => pc_cb clear_x (fun _ g9 L10 e9 => ?_))))
  have d2 : x2 = d 1 l := by rw [e2]; exact (h.2.1 l ln).1.1.1
  have d3 : x3 = d 2 l := by rw [e3]; exact (h.2.1 l ln).1.1.2.1
  have hw : ∃ w, LV cs n d w := ⟨_, _, _, _, _, fun i hi => e5.1 i (Nat.zero_le _) hi, rfl⟩
  have gs : upd2 (upd2 g (57 + l) 3 x2) (57 + l) 4 x3 = g := by rw [e2, upd2_s, e3, upd2_s]
  have ds : ft d l x2 x3 = d := by rw [d2, d3, ft_s]
  unfold fX10_leastByShift_9_l44
  refine pc_loop (fun v => ∃ m : Int, v.1.toInt = m ∧ -20 ≤ m ∧ m ≤ 21 ∧ (∃ x y : Int32, (∀ k, k ≠ 13 → k ≠ 21 → (k < 43 ∨ 48 < k) → v.2.1 k = upd2 (upd2 g (57 + l) 3 x) (57 + l) 4 y k) ∧ DY cs (ft d l x y) n (v.2.1 43) (v.2.1 44) (v.2.1 45) (v.2.1 46)) ∧ LO (QS cs n d l m) v.2.1) (fun k44 hk v hv => ?_) ⟨-20, rfl, by omega, by omega, ⟨x2, x3, fun k a b c => ?_, ?_⟩, Or.inl ⟨e9.1, fun _ _ => qs_0⟩⟩
  rotate_left
  · show g9 k = _
    rw [gs, e9.2 k a, e5.2.2 k b c]
  · show DY cs _ n (g9 43) (g9 44) (g9 45) (g9 46)
    rw [ds, e9.2 43 (by decide), e9.2 44 (by decide), e9.2 45 (by decide), e9.2 46 (by decide)]
    exact fun i hi => e5.1 i (Nat.zero_le _) hi
  obtain ⟨v6, g', L'⟩ := v
  obtain ⟨m, hm, m0, m1, ⟨x, y, ek, hy⟩, hlo⟩ := hv
  replace hm : v6.toInt = m := hm
  replace ek : ∀ k, k ≠ 13 → k ≠ 21 → (k < 43 ∨ 48 < k) → g' k = upd2 (upd2 g (57 + l) 3 x) (57 + l) 4 y k := ek
  replace hy : DY cs (ft d l x y) n (g' 43) (g' 44) (g' 45) (g' 46) := hy
  replace hlo : LO (QS cs n d l m) g' := hlo
  show Pc (fX10_leastByShift_9_s44 fu p1 p2 (57 + l) x2 x3 k44 v6 g' L') _
  unfold fX10_leastByShift_9_s44 fX10_leastByShift_9_p105
  have i20 : (20 : Int32).toInt = 20 := rfl
  refine pc_ite (fun c => ?_) (fun c => ?_)
  · have c := icc_lt i20 hm c
    have em : m = 21 := by omega
    rw [em] at hlo
    refine pc_st (fun g13 e13 => pc_st (fun g14 e14 => ?_))
    have k13 : g14 13 = g' 13 := by rw [e14, e13]; exact funext fun _ => by rw [upd2_nk (by omega), upd2_nk (by omega)]
    exact pc_cb (told_o (hlo.c k13 (fun _ _ => Iff.rfl))) (fun x15 g16 L17 e => pc_some ⟨hw, e.2⟩)
  · have c := icc_nlt i20 hm c
    have ew : (v6 + 1).toInt = m + 1 := ic_addc hm (n := 1) rfl (by omega) (by omega)
    have v6i : Int32.ofInt m = v6 := by rw [← hm]; exact io_i
    have vs : Vs d l m ↔ (¬ x2 + v6 < 0 ∧ ¬ 999 < x3 + v6) := by unfold Vs; rw [v6i, d2, d3]
    refine pc_ite (fun c1 => hk _ ⟨m + 1, ew, by omega, by omega, ⟨x, y, ek, hy⟩, hlo.c rfl (qs_k (fun hh => (vs.mp hh).1 c1))⟩) (fun c1 => pc_ite (fun c2 => hk _ ⟨m + 1, ew, by omega, by omega, ⟨x, y, ek, hy⟩, hlo.c rfl (qs_k (fun hh => (vs.mp hh).2 c2))⟩) (fun c2 => ?_))
    refine pc_st (fun g21 e21 => pc_st (fun g22 e22 => ?_))
    have f22 : ∀ k, k ≠ 13 → k ≠ 21 → (k < 43 ∨ 48 < k) → g22 k = upd2 (upd2 g (57 + l) 3 (x2 + v6)) (57 + l) 4 (x3 + v6) k := fun k a b c => by
      rw [e22, e21]; exact ft_cell (ek k a b c)
    have o22 : ∀ k, k ≠ 57 + l → g22 k = g' k := fun k hk => by rw [e22, e21]; exact funext fun _ => by rw [upd2_nk hk, upd2_nk hk]
    have hD : DC cs n g22 (ft d l (x2 + v6) (x3 + v6)) := (dc_ft h l12').c2 f22
    refine pc_cb (lf_x hD hl (by omega)) (fun x23 g24 L25 e24 => ?_)
    have dy : DY cs (ft d l (x2 + v6) (x3 + v6)) n (g24 43) (g24 44) (g24 45) (g24 46) := rf_dl (g := g22) (fun i _ hf _ _ _ _ hL => ld_ft (by omega) hL) (wf_ft hW) (by rw [o22 43 (by omega), o22 44 (by omega), o22 45 (by omega), o22 46 (by omega)]; exact hy) e24.1
    have hx : LV cs n (ft d l (d 1 l + Int32.ofInt m) (d 2 l + Int32.ofInt m)) x23 := by
      rw [v6i, ← d2, ← d3]
      exact ⟨_, _, _, _, dy, e24.2⟩
    have k13 : g24 13 = g' 13 := by rw [e24.1.2.2 13 (by decide) (by omega), o22 13 (by omega)]
    refine pc_cb (offer_o hm (hlo.c k13 (fun _ _ => Iff.rfl))) (fun _ g28 L29 e28 => hk _ ⟨m + 1, ew, by omega, by omega, ⟨x2 + v6, x3 + v6, fun k a b c => ?_, ?_⟩, ?_⟩)
    · show g28 k = _
      rw [e28.2 k a, e24.1.2.2 k b c, f22 k a b c]
    · show DY cs _ n (g28 43) (g28 44) (g28 45) (g28 46)
      rw [e28.2 43 (by decide), e28.2 44 (by decide), e28.2 45 (by decide), e28.2 46 (by decide)]
      exact dy
    · exact e28.1.c rfl (qs_s hW (vs.mpr ⟨c1, c2⟩) m0 hx)
theorem shift_m {cs : Nat → List Int} {n l fu : Nat} {p1 p2 x12 x13 : Int32} {d : gT} {L : lT} (hM : MD cs n d) (hl : p1.toInt = (l : Int)) (d2 : x12 = d 1 l) (d3 : x13 = d 2 l) : Pc (fX12_shift_l52 fu p1 p2 x12 x13 0 0 0 (-20) d L) (fun x g1 _ => g1 0 = d 0 ∧ ((∀ r v, ¬ QS cs n d l 21 r v) ∨ TO (QS cs n d l 21) p2 x)) := by
  have hW := hM.2.1
  have el : p1.toNatClampNeg = l := by rw [nc, hl]; omega
  unfold fX12_shift_l52
  refine pc_loop (fun v => ∃ m : Int, v.2.2.2.1.toInt = m ∧ -20 ≤ m ∧ m ≤ 21 ∧ (∃ x y : Int32, Em (ft d l x y) v.2.2.2.2.1) ∧ ((v.1 = 0 ∧ ∀ r w, ¬ QS cs n d l m r w) ∨ (¬ v.1 = 0 ∧ BO (QS cs n d l m) v.2.1.toInt v.2.2.1))) (fun k52 hk v hv => ?_) ⟨-20, rfl, by omega, by omega, ⟨d 1 l, d 2 l, by rw [ft_s]; exact fun _ _ => rfl⟩, Or.inl ⟨rfl, fun _ _ => qs_0⟩⟩
  obtain ⟨v5, v6, v7, v8, g', L'⟩ := v
  obtain ⟨m, hm, m0, m1, ⟨x, y, e⟩, hlo⟩ := hv
  replace hm : v8.toInt = m := hm
  replace e : Em (ft d l x y) g' := e
  replace hlo : (v5 = 0 ∧ ∀ r w, ¬ QS cs n d l m r w) ∨ (¬ v5 = 0 ∧ BO (QS cs n d l m) v6.toInt v7) := hlo
  show Pc (fX12_shift_s52 fu p1 p2 x12 x13 k52 v5 v6 v7 v8 g' L') _
  unfold fX12_shift_s52 fX12_shift_p122 fX12_shift_p133 fX12_shift_p165
  have i20 : (20 : Int32).toInt = 20 := rfl
  have g0 : g' 0 = d 0 := (e 0 (by omega)).trans (ft_k (by decide) (by decide))
  rw [el]
  refine pc_ite (fun c => ?_) (fun c => ?_)
  · have c := icc_lt i20 hm c
    have em : m = 21 := by omega
    rw [em] at hlo
    refine pc_ck (fun _ _ => pc_st (fun g15 e15 => pc_ck (fun _ _ => pc_st (fun g16 e16 => ?_))))
    have z0 : g16 0 = d 0 := by rw [e16, e15, ← g0]; exact funext fun _ => by rw [upd2_nk (by decide), upd2_nk (by decide)]
    rcases hlo with ⟨-, l2⟩ | ⟨-, l2⟩
    · exact pc_ite (fun _ => pc_some ⟨z0, Or.inl l2⟩) (fun _ => pc_some ⟨z0, Or.inl l2⟩)
    · exact pc_ite (fun c0 => pc_some ⟨z0, Or.inr (Or.inr ⟨_, _, l2, fun _ => rfl, fun hh => absurd c0 hh⟩)⟩) (fun c0 => pc_some ⟨z0, Or.inr (Or.inr ⟨_, _, l2, fun hh => absurd hh c0, fun _ => rfl⟩)⟩)
  · have c := icc_nlt i20 hm c
    have ew : (v8 + 1).toInt = m + 1 := ic_addc hm (n := 1) rfl (by omega) (by omega)
    have v8i : Int32.ofInt m = v8 := by rw [← hm]; exact io_i
    have vs : Vs d l m ↔ (¬ x12 + v8 < 0 ∧ ¬ 999 < x13 + v8) := by unfold Vs; rw [v8i, d2, d3]
    have skip : ¬ Vs d l m → Pc (k52 (v5, v6, v7, (v8 + 1), g', L')) (fun x g1 _ => g1 0 = d 0 ∧ ((∀ r v, ¬ QS cs n d l 21 r v) ∨ TO (QS cs n d l 21) p2 x)) := by
      intro nv
      have eq : QS cs n d l m = QS cs n d l (m + 1) := of_iff (qs_k nv)
      rw [eq] at hlo
      exact hk _ ⟨m + 1, ew, by omega, by omega, ⟨x, y, e⟩, hlo⟩
    refine pc_ite (fun c1 => skip (fun hh => (vs.mp hh).1 c1)) (fun c1 => pc_ite (fun c2 => ?_) (fun c2 => skip (fun hh => (vs.mp hh).2 ?_)))
    rotate_left
    · have c2 := icc_nle (m := (x13 + v8).toInt) (n := 999) rfl rfl c2
      exact ic_lt.mpr c2
    have c2 := icc_le (m := (x13 + v8).toInt) (n := 999) rfl rfl c2
    have c2' : ¬ 999 < x13 + v8 := fun hh => by have := icc_lt (m := 999) (n := (x13 + v8).toInt) rfl rfl hh; omega
    refine pc_ck (fun _ _ => pc_st (fun g20 e20 => pc_ck (fun _ _ => pc_st (fun g21 e21 => ?_))))
    have q21 : Em (ft d l (x12 + v8) (x13 + v8)) g21 := by rw [e21, e20]; exact em_ft e
    refine pc_cb (lv_m (cs := cs) (n := n) ((md_ft hM).e q21)) (fun x22 g23 L24 e23 => ?_)
    have e23' : Em (ft d l (x12 + v8) (x13 + v8)) g23 := fun k hk => (e23.2 k hk).trans (q21 k hk)
    have hx : LV cs n (ft d l (d 1 l + Int32.ofInt m) (d 2 l + Int32.ofInt m)) x22 := by
      rw [v8i, ← d2, ← d3]
      exact e23.1.e q21
    have eq : Ad (QS cs n d l m) m x22 = QS cs n d l (m + 1) := of_iff (qs_s hW (vs.mpr ⟨c1, c2'⟩) m0 hx)
    have take : BO (Ad (QS cs n d l m) m x22) m x22 → Pc (k52 (1, v8, x22, (v8 + 1), g23, L24)) (fun x g1 _ => g1 0 = d 0 ∧ ((∀ r v, ¬ QS cs n d l 21 r v) ∨ TO (QS cs n d l 21) p2 x)) := fun hh => by
      rw [eq] at hh
      refine hk _ ⟨m + 1, ew, by omega, by omega, ⟨_, _, e23'⟩, Or.inr ⟨(by decide : ¬ (1 : Int32) = 0), ?_⟩⟩
      show BO _ v8.toInt x22
      rw [hm]; exact hh
    rcases hlo with ⟨l1, l2⟩ | ⟨l1, l2⟩
    · rw [if_pos l1]
      exact take (bo_one l2)
    · rw [if_neg l1]
      refine pc_ite (fun c3 => take (bo_new l2 (Or.inl (ic_lt.mp c3)))) (fun c3 => hk _ ⟨m + 1, ew, by omega, by omega, ⟨_, _, e23'⟩, Or.inr ⟨l1, ?_⟩⟩)
      show BO (QS cs n d l (m + 1)) v6.toInt v7
      rw [← eq]
      refine bo_keep l2 ?_
      have c3 := icc_nlt (m := x22.toInt) (n := v7.toInt) rfl rfl c3
      have := l2.1.1
      omega
theorem cr_shift {fu : Nat} {p1 p2 : Int32} {g gm g1 g2 : gT} {L Lm L1 L2 : lT} {rx : Except String Int32} {rm : Int32} (hS : CS g gm) (e1 : fX11_shift_0 fu p1 p2 g L = some (rx, (g1, L1))) (e2 : fX12_shift fu p1 p2 gm Lm = some (rm, (g2, L2))) : (rx = .ok rm ∧ g2 0 0 = 0) ∨ (rx = .error NSE ∧ g2 0 0 = 1) := by
  obtain ⟨h, hV⟩ := hS
  have hp := h.1.1
  have hI := hp.2.1
  obtain ⟨k1, -⟩ := hp.2.2.2.2.2.2.1
  have r1 := hI 0 1 0 12 rfl
  have a0 : upd2 gm 0 0 0 0 0 = 0 := upd2_at
  have a1 : upd2 gm 0 0 0 0 1 = gm 0 1 := rfl
  unfold fX11_shift_0 at e1
  unfold fX12_shift fX12_shift_p22 at e2
  unfold sti at e2
  have e2 : cb (fX12_isLesson fu p1 (upd2 gm 0 0 0) Lm) _ = some (rm, (g2, L2)) := e2
  by_cases c1 : isL (gm 0 1) p1
  rotate_left
  · rw [xneed0 (by rw [k1]; exact c1)] at e1
    have e1 : some (.error NSE, (g, L)) = some (rx, (g1, L1)) := e1
    rw [lesson0 a0 (by rw [a1]; exact c1)] at e2
    have e2 : some ((0 : Int32), (upd2 (upd2 gm 0 0 0) 0 0 1, Lm)) = some (rm, (g2, L2)) := e2
    cases e1; cases e2
    exact Or.inr ⟨rfl, upd2_at⟩
  rw [xneed1 (by rw [k1]; exact c1), cbxs] at e1
  rw [lesson1 a0 (by rw [a1]; exact c1), cbs, if_neg (by decide)] at e2
  have i1 : (1 : Int32).toInt = 1 := rfl
  have i2 : (2 : Int32).toInt = 2 := rfl
  by_cases c2 : 0 ≤ p2.toInt ∧ p2.toInt ≤ (1 : Int32).toInt
  rotate_left
  · rw [xwhat0 (fun hh => c2 (by omega))] at e1
    have e1 : some (.error NSE, (g, L)) = some (rx, (g1, L1)) := e1
    rw [what0 a0 c2] at e2
    have e2 : some ((0 : Int32), (upd2 (upd2 gm 0 0 0) 0 0 1, Lm)) = some (rm, (g2, L2)) := e2
    cases e1; cases e2
    exact Or.inr ⟨rfl, upd2_at⟩
  rw [xwhat1 c2.1 (by omega), cbxs] at e1
  rw [what1 a0 c2.1 c2.2, cbs, if_neg (by decide)] at e2
  have hl := l12 c1 r1.2
  obtain ⟨l, el⟩ : ∃ i : Nat, p1.toInt = (i : Int) := ⟨p1.toInt.toNat, by omega⟩
  have nl : l < (gm 0 1).toInt.toNat := by have := c1.2; omega
  have il : p1.toNatClampNeg = l := by rw [nc, el]; omega
  have ckm : ∀ {K : Option (Int32 × zS)}, ck p1 12 K = K := ck_eq (by omega) (by omega)
  obtain ⟨xa, ga, La, ea, e1⟩ := cb_some e1
  cases e1
  rw [ckm, il] at e2
  unfold lti at e2
  have e2 : ck p1 12 (fX12_shift_l52 fu p1 p2 (upd2 gm 0 0 0 1 l) (upd2 gm 0 0 0 2 l) 0 0 0 (-20) (upd2 gm 0 0 0) Lm) = some (rm, (g2, L2)) := e2
  rw [ckm] at e2
  obtain ⟨cs, hX, hM, -⟩ := dc_all h
  obtain ⟨⟨w, u1⟩, u2⟩ := shift_x (hX.d (e0_u (x := 0))) el nl _ _ _ ea
  have v := shift_m (hM.d (e0_u (x := 0))) el rfl rfl _ _ _ e2
  have hv := (hV.1.1 l (by omega)).1
  have q1 : upd2 gm 0 0 0 1 l = gm 1 l := upd2_nk (by decide)
  have q2 : upd2 gm 0 0 0 2 l = gm 2 l := upd2_nk (by decide)
  have z : ∀ x : Int32, x + Int32.ofInt 0 = x := Int32.add_zero
  have ne : QS cs (gm 0 1).toInt.toNat (upd2 gm 0 0 0) l 21 0 w := by
    refine ⟨by omega, ⟨?_, ?_⟩, by rw [z, z, ft_s]; exact u1⟩
    · rw [z, q1]
      intro hh
      have := icc_lt (m := (gm 1 l).toInt) (n := 0) rfl rfl hh
      omega
    · rw [z, q2]
      intro hh
      have := icc_lt (m := 999) (n := (gm 2 l).toInt) rfl rfl hh
      omega
  rcases v.2 with v2 | v2
  · exact absurd ne (v2 0 w)
  · exact Or.inl ⟨by rw [TO.u u2 v2], by rw [v.1]; exact a0⟩
