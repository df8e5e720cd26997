/-! ===== the class's day is a day, on ===== -/
theorem cn_lt {c : Nat → Int} {w : Int} {k : Nat} (hw : w < c k) : ∀ {n : Nat}, k < n → cn c n w < n := by
  intro n
  induction n with
  | zero => intro h; omega
  | succ n ih =>
    intro h
    rw [cn_s]
    rcases (by omega : k < n ∨ k = n) with h | rfl
    · have := ih h
      split <;> omega
    · rw [if_neg (by omega)]
      have := cn_le (c := c) (v := w) (n := k)
      omega
/-- when all have come -/
theorem kth_all {c : Nat → Int} {n : Nat} {w : Int} (h1 : 1 ≤ n) (hc : ∀ k, k < n → c k ≤ w) : ∃ m, m < n ∧ KTH c n n (c m) ∧ ∀ k, k < n → c k ≤ c m := by
  obtain ⟨m, m1, m2, m3⟩ := cn_max (c := c) (w := w) (n := n) (by rw [cn_all hc]; exact h1)
  have a : ∀ k, k < n → c k ≤ c m := fun k hk => m3 k hk (hc k hk)
  exact ⟨m, m1, ⟨by rw [cn_all a]; exact Nat.le_refl _, fun w hw => cn_lt hw m1⟩, a⟩
theorem kth_mem {c : Nat → Int} {n k : Nat} {v : Int} (h1 : 1 ≤ k) (h : KTH c n k v) : ∃ m, m < n ∧ c m = v := by
  refine Classical.byContradiction (fun hn => ?_)
  have e : cn c n v = cn c n (v - 1) := cn_c (fun m hm => by
    have : c m ≠ v := fun e => hn ⟨m, hm, e⟩
    omega)
  have a := h.1
  have b := h.2 (v - 1) (by omega)
  omega
theorem fc_x {fu N q : Nat} {p1 : Int32} {g : gT} {L : lT} (hN : (g q 1).toInt = (N : Int)) (h6 : N ≤ 6) : Pc (fX1_firstComingAt_8_les fu p1 q g L) (fun x g1 _ => g1 = g ∧ ((∃ k, k < N ∧ x = g (q + 24) k ∧ g 47 k = p1 ∧ ∀ m, m < k → g 47 m ≠ p1) ∨ ∀ m, m < N → g 47 m ≠ p1)) := by
  unfold fX1_firstComingAt_8_les fX1_firstComingAt_8_les_l2
  refine pc_loop (fun v => ∃ m : Nat, v.1.toInt = (m : Int) ∧ m ≤ N ∧ v.2.1 = g ∧ ∀ k, k < m → g 47 k ≠ p1) (fun k2 hk v hv => ?_) ⟨0, rfl, by omega, rfl, fun k hk => absurd hk (Nat.not_lt_zero _)⟩
  obtain ⟨v3, g', L'⟩ := v
  obtain ⟨m, hm, hmN, eg, hb⟩ := hv
  replace hm : v3.toInt = (m : Int) := hm
  replace eg : g' = g := eg
  subst eg
  show Pc (fX1_firstComingAt_8_les_s2 fu p1 q k2 v3 g' L') _
  unfold fX1_firstComingAt_8_les_s2
  have e5 : v3.toNatClampNeg = m := by rw [nc, hm]; omega
  rw [e5]
  refine pc_ite (fun c => pc_some ⟨rfl, Or.inr ?_⟩) (fun c => pc_ck (fun _ _ => pc_ite (fun c1 => pc_ck (fun _ _ => pc_some ⟨rfl, Or.inl ⟨m, ?_, rfl, c1, hb⟩⟩)) (fun c1 => hk _ ⟨m + 1, ?_, ?_, rfl, fun k hk => ?_⟩)))
  · have c := icc_le hN hm c
    intro k hk
    exact hb k (by omega)
  · have c := icc_nle hN hm c
    omega
  · show (v3 + 1).toInt = _
    rw [ic_addc hm (n := 1) rfl (by omega) (by omega)]; omega
  · have c := icc_nle hN hm c
    omega
  · rcases (by omega : k < m ∨ k = m) with h | h
    · exact hb k h
    · subst h; exact c1
/-- what is due: for p115 -/
def DU (d : gT) (en : Nat → Int32) (i : Nat) (x : Int32) : Prop := ((d 5 i).toInt = 2 ∧ x.toInt ≤ (d 1 i).toInt) ∨ ((d 5 i).toInt ≠ 2 ∧ ∃ v : Int32, KTH (fun k => (cmg d en i k).toInt) (d 8 i).toInt.toNat (if (d 5 i).toInt = 0 then d 8 i else d 6 i).toInt.toNat v.toInt ∧ ((v.toInt ≤ (d 1 i).toInt ∧ x.toInt ≤ (d 1 i).toInt) ∨ x = v))
theorem be_t {cs : Nat → List Int} {n i fu : Nat} {p1 v3 : Int32} {g d : gT} {L : lT} {en : Nat → Int32} (h : DC cs n g d) (hi : p1.toInt = (i : Int)) (ni : i < n) (h43 : g 43 i = d 1 i) (h46 : g 46 i = -1) (hc : ∀ k, k < (d 8 i).toInt.toNat → g 47 k = cmg d en i k) (hd : DU d en i v3) : Pc (fX1_begin_8_les_p115 fu p1 (57 + i) v3 g L) (fun _ g1 _ => LB d en i (g1 43 i) (g1 46 i) ∧ (∀ j, j ≠ i → g1 43 j = g 43 j ∧ g1 46 j = g 46 j) ∧ ∀ k, k ≠ 43 → k ≠ 46 → g1 k = g k) := by
  obtain ⟨⟨-, a2⟩, a3, -, a5, a6, -⟩ := h
  have ei : p1.toNatClampNeg = i := by rw [nc, hi]; omega
  have f3 : g (57 + i) 3 = d 1 i := (a3 i ni).1.1.1
  have f1 : g (57 + i) 1 = d 8 i := (a3 i ni).1.2.1.2.2.2
  have fw : ∀ k : Nat, (k : Int) < (d 8 i).toInt → g (81 + i) k = d 9 (6 * i + k) := (a3 i ni).1.2.2.2
  have f28 : g 28 i = d 12 (36 + i) := (a3 i ni).2.2.2.2
  have b8 := (a6 i ni).2
  have w := a5 i ni
  unfold fX1_begin_8_les_p115
  rw [ei, f3, f28]
  refine pc_ite (fun c => ?_) (fun c => pc_some ⟨?_, fun _ _ => ⟨rfl, rfl⟩, fun _ _ _ => rfl⟩)
  · have c := icc_lt (m := (d 1 i).toInt) (n := v3.toInt) rfl rfl c
    rcases hd with ⟨-, h2⟩ | ⟨h1, v, hv, h2⟩
    · omega
    obtain rfl : v3 = v := by
      rcases h2 with h2 | h2
      · omega
      · exact h2
    refine pc_ck (fun _ _ => pc_lti (fun x6 e6 => pc_ite (fun c1 => pc_ck (fun _ _ => pc_st (fun g8 e8 => ?_))) (fun c1 => pc_ck (fun _ _ => pc_st (fun g14 e14 => pc_some ⟨?_, fun j hj => ⟨?_, ?_⟩, fun k k1 k2 => ?_⟩)))))
    · have c1 := icc_le (m := v3.toInt) (n := x6.toInt) rfl rfl c1
      have e8k : ∀ k, k ≠ 43 → g8 k = g k := fun k hk => by rw [e8]; exact funext fun _ => upd2_nk hk
      refine pc_cb (fc_x (N := (d 8 i).toInt.toNat) (by rw [e8k _ (by omega), f1]; omega) (by omega)) (fun x9 g10 L11 e9 => pc_ck (fun _ _ => pc_st (fun g13 e13 => pc_some ⟨?_, fun j hj => ⟨?_, ?_⟩, fun k k1 k2 => ?_⟩)))
      · obtain ⟨e10, e9⟩ := e9
        rw [e8k 47 (by decide), e8k _ (by omega), show 57 + i + 24 = 81 + i by omega] at e9
        refine Or.inr ⟨h1, v3, hv, Or.inr (Or.inr ⟨c, by rw [← e6]; exact c1, ?_, ?_⟩)⟩
        · rw [e13, upd2_nk (by decide), e10, e8, upd2_at]
        · rw [e13, upd2_at]
          rcases e9 with ⟨k, k1, k2, k3, k4⟩ | hn
          · exact ⟨k, k1, by rw [k2, fw k (by omega)], by rw [← hc k k1, k3], fun m hm => by rw [← hc m (by omega)]; exact k4 m hm⟩
          · exfalso
            have hk1 : 1 ≤ (if (d 5 i).toInt = 0 then d 8 i else d 6 i).toInt.toNat := by
              have := w.2.1 h1
              split <;> omega
            obtain ⟨m, m1, m2⟩ := kth_mem hk1 hv
            refine hn m m1 ?_
            rw [hc m m1]
            exact ic_eq.mpr m2
      · rw [e13, upd2_nk (by decide), e9.1, e8, upd2_nj hj]
      · rw [e13, upd2_nj hj, e9.1, e8k 46 (by decide)]
      · rw [← e8k k k1, e13, e9.1]
        exact funext fun _ => upd2_nk k2
    · have c1 := icc_nle (m := v3.toInt) (n := x6.toInt) rfl rfl c1
      refine Or.inr ⟨h1, v3, hv, Or.inr (Or.inl ⟨c, by rw [← e6]; exact c1, ?_, ?_⟩)⟩
      · rw [e14, upd2_at, e6]
      · rw [e14, upd2_nk (by decide)]; exact h46
    · rw [e14, upd2_nj hj]
    · rw [e14, upd2_nk (by decide)]
    · rw [e14]; exact funext fun _ => upd2_nk k1
  · have c := icc_nlt (m := (d 1 i).toInt) (n := v3.toInt) rfl rfl c
    rcases hd with ⟨h1, -⟩ | ⟨h1, v, hv, h2⟩
    · exact Or.inl ⟨h1, h43, h46⟩
    · refine Or.inr ⟨h1, v, hv, Or.inl ⟨?_, h43, h46⟩⟩
      rcases h2 with h2 | h2
      · exact h2.1
      · rw [← h2]; exact c
/-- when a lesson begins, and by whom -/
theorem be_x {cs : Nat → List Int} {n i fu : Nat} {p1 : Int32} {g d : gT} {L : lT} (h : DC cs n g d) (hi : p1.toInt = (i : Int)) (ni : i < n) : Pc (fX1_begin_8_les fu p1 (57 + i) g L) (fun _ g1 _ => LB d (g 44) i (g1 43 i) (g1 46 i) ∧ (∀ j, j ≠ i → g1 43 j = g 43 j ∧ g1 46 j = g 46 j) ∧ ∀ k, k ≠ 43 → k ≠ 46 → k ≠ 47 → g1 k = g k) := by
  have h0 := h
  obtain ⟨⟨-, a2⟩, a3, -, a5, a6, -⟩ := h
  have ei : p1.toNatClampNeg = i := by rw [nc, hi]; omega
  have f3 : g (57 + i) 3 = d 1 i := (a3 i ni).1.1.1
  have f9 : g (57 + i) 9 = d 5 i := (a3 i ni).1.2.1.1
  have f10 : g (57 + i) 10 = d 6 i := (a3 i ni).1.2.1.2.1
  have f1 : g (57 + i) 1 = d 8 i := (a3 i ni).1.2.1.2.2.2
  have fw : ∀ k : Nat, (k : Int) < (d 8 i).toInt → g (81 + i) k = d 9 (6 * i + k) := (a3 i ni).1.2.2.2
  have f26 : g 26 i = d 12 (12 + i) := (a3 i ni).2.2.1
  have b8 := (a6 i ni).2
  have w := a5 i ni
  obtain ⟨N, hN⟩ : ∃ N : Nat, (d 8 i).toInt = (N : Int) := ⟨(d 8 i).toInt.toNat, by omega⟩
  have hNn : (d 8 i).toInt.toNat = N := by omega
  unfold fX1_begin_8_les
  rw [ei, f3]
  refine pc_ck (fun _ _ => pc_st (fun g1 e1 => pc_ck (fun _ _ => pc_st (fun g2 e2 => pc_lti (fun x3 e3 => ?_)))))
  have k2 : ∀ k, k ≠ 43 → k ≠ 46 → g2 k = g k := fun k h1 h2 => by rw [e2, e1]; exact funext fun _ => by rw [upd2_nk h2, upd2_nk h1]
  rw [k2 (57 + i) (by omega) (by omega), f3] at e3
  have q43 : g2 43 i = d 1 i := by rw [e2, upd2_nk (by decide), e1, upd2_at]
  have q46 : g2 46 i = -1 := by rw [e2, upd2_at]
  have o43 : ∀ j, j ≠ i → g2 43 j = g 43 j := fun j hj => by rw [e2, upd2_nk (by decide), e1, upd2_nj hj]
  have o46 : ∀ j, j ≠ i → g2 46 j = g 46 j := fun j hj => by rw [e2, upd2_nj hj, e1, upd2_nk (by decide)]
  unfold fX1_begin_8_les_l25
  refine pc_loop (fun v => ∃ m : Nat, v.2.1.toInt = (m : Int) ∧ m ≤ N ∧ (v.2.2.1 43 = g2 43 ∧ v.2.2.1 46 = g2 46 ∧ ∀ k, k ≠ 43 → k ≠ 46 → k ≠ 47 → v.2.2.1 k = g k) ∧ (∀ k, k < m → v.2.2.1 47 k = cmg d (g 44) i k) ∧ (∀ k, k < m → (cmg d (g 44) i k).toInt ≤ v.1.toInt) ∧ (v.1 = d 1 i ∨ ∃ k, k < m ∧ v.1 = cmg d (g 44) i k) ∧ (d 1 i).toInt ≤ v.1.toInt) (fun k25 hk v hv => ?_) ⟨0, rfl, by omega, ⟨rfl, rfl, fun k h1 h2 _ => k2 k h1 h2⟩, fun k hk => absurd hk (Nat.not_lt_zero _), fun k hk => absurd hk (Nat.not_lt_zero _), Or.inl e3, by rw [e3]; exact Int.le_refl _⟩
  obtain ⟨v3, v4, g', L'⟩ := v
  obtain ⟨m, hm, hmN, ⟨z43, z46, zk⟩, hc, hle, hor, hge⟩ := hv
  replace hm : v4.toInt = (m : Int) := hm
  replace z43 : g' 43 = g2 43 := z43
  replace z46 : g' 46 = g2 46 := z46
  replace zk : ∀ k, k ≠ 43 → k ≠ 46 → k ≠ 47 → g' k = g k := zk
  replace hc : ∀ k, k < m → g' 47 k = cmg d (g 44) i k := hc
  replace hle : ∀ k, k < m → (cmg d (g 44) i k).toInt ≤ v3.toInt := hle
  replace hor : v3 = d 1 i ∨ ∃ k, k < m ∧ v3 = cmg d (g 44) i k := hor
  replace hge : (d 1 i).toInt ≤ v3.toInt := hge
  have hD' : DC cs n g' d := h0.c (fun k h1 h2 => zk k (by omega) (by omega) (by omega))
  show Pc (fX1_begin_8_les_s25 fu p1 (57 + i) k25 v3 v4 g' L') _
  unfold fX1_begin_8_les_s25
  have e4 : v4.toNatClampNeg = m := by rw [nc, hm]; omega
  have zq := zk (57 + i) (by omega) (by omega) (by omega)
  rw [e4, zq, f1, f9, f10, ei, show 57 + i + 24 = 81 + i by omega, zk (81 + i) (by omega) (by omega) (by omega)]
  have fin : ∀ (x : Int32) (La : lT), m = N → DU d (g 44) i x → Pc (fX1_begin_8_les_p115 fu p1 (57 + i) x g' La) (fun _ g1 _ => LB d (g 44) i (g1 43 i) (g1 46 i) ∧ (∀ j, j ≠ i → g1 43 j = g 43 j ∧ g1 46 j = g 46 j) ∧ ∀ k, k ≠ 43 → k ≠ 46 → k ≠ 47 → g1 k = g k) := by
    intro x La em hd
    refine pc_mo (be_t hD' hi ni (by rw [z43]; exact q43) (by rw [z46]; exact q46) (fun k hk => hc k (by omega)) hd) (fun _ ga Lb e => ?_)
    obtain ⟨y1, y2, y3⟩ := e
    refine ⟨y1, fun j hj => ?_, fun k h1 h2 h3 => ?_⟩
    · obtain ⟨u1, u2⟩ := y2 j hj
      rw [u1, u2, z43, z46, o43 j hj, o46 j hj]; exact ⟨rfl, rfl⟩
    · rw [y3 k h1 h2, zk k h1 h2 h3]
  refine pc_ite (fun c => ?_) (fun c => ?_)
  · have c := icc_le hN hm c
    have em : m = N := by omega
    refine pc_ite (fun c1 => ?_) (fun c1 => ?_)
    · have k1 : (d 5 i).toInt = 1 := icc_eq (n := 1) rfl rfl c1
      have w1 := w.2.1 (by omega)
      refine pc_cb (co_x (N := N) (g := g') hN (by omega) (by omega) (by omega) (fun k hk => by rw [hc k (by omega)]; exact hle k (by omega))) (fun x16 g17 L18 e => ?_)
      obtain ⟨rfl, e⟩ := e
      refine fin x16 L18 em (Or.inr ⟨by omega, x16, ?_, Or.inr rfl⟩)
      rw [if_neg (by omega), hNn]
      exact kth_c e (fun k hk => by rw [hc k (by omega)])
    · have k1 : ¬ (d 5 i).toInt = 1 := icc_neq (n := 1) rfl rfl c1
      refine fin v3 L' em ?_
      by_cases k2' : (d 5 i).toInt = 2
      · refine Or.inl ⟨k2', ?_⟩
        have := w.1 k2'
        rcases hor with e | ⟨k, hk, -⟩
        · rw [e]; exact Int.le_refl _
        · omega
      · have w1 := w.2.1 k2'
        have k0 : (d 5 i).toInt = 0 := by omega
        obtain ⟨q, q1, q2, q3⟩ := kth_all (c := fun k => (cmg d (g 44) i k).toInt) (n := N) (w := v3.toInt) (by omega) (fun k hk => hle k (by omega))
        refine Or.inr ⟨k2', cmg d (g 44) i q, by rw [if_pos k0, hNn]; exact q2, ?_⟩
        rcases hor with e | ⟨k, hk, e⟩
        · refine Or.inl ⟨?_, by rw [e]; exact Int.le_refl _⟩
          have := hle q (by omega)
          rw [e] at this; exact this
        · refine Or.inr (ic_eq.mpr ?_)
          have a := hle q (by omega)
          have b := q3 k (by omega)
          rw [e] at a ⊢
          exact Int.le_antisymm b a
  · have c := icc_nle hN hm c
    have ew : (v4 + 1).toInt = ((m + 1 : Nat) : Int) := by rw [ic_addc hm (n := 1) rfl (by omega) (by omega)]; omega
    have wm := w.2.2 m (by omega)
    refine pc_ck (fun _ _ => pc_lti (fun x20 e20 => pc_ck (fun _ _ => ?_)))
    rw [fw m (by omega)] at e20
    have ej : x20.toInt = ((wf0 d i m : Nat) : Int) := by rw [e20]; unfold wf0; omega
    have ej' : x20.toNatClampNeg = wf0 d i m := by rw [nc, ej]; omega
    have jl : wf0 d i m < i := by unfold wf0; omega
    refine pc_cb (way_x hD' ej hi (by omega) ni) (fun x21 g22 L23 e => pc_ck (fun _ _ => pc_ck (fun _ _ => pc_st (fun g25 e25 => pc_ck (fun _ _ => pc_lti (fun x26 e26 => hk _ ?_))))))
    obtain ⟨rfl, e21⟩ := e
    rw [ej', zk 44 (by decide) (by decide) (by decide), zk 26 (by decide) (by decide) (by decide), f26, e21] at e25
    have ecm : g 44 (wf0 d i m) + wy d (wf0 d i m) i - d 12 (12 + i) = cmg d (g 44) i m := rfl
    rw [ecm] at e25
    have a47 : g25 47 m = cmg d (g 44) i m := by rw [e25, upd2_at]
    rw [a47] at e26
    have hx : v3.toInt ≤ x26.toInt ∧ (cmg d (g 44) i m).toInt ≤ x26.toInt ∧ (x26 = v3 ∨ x26 = cmg d (g 44) i m) := by
      rw [e26]
      by_cases cc : v3 < cmg d (g 44) i m
      · rw [if_pos cc]
        have := ic_lt.mp cc
        exact ⟨by omega, Int.le_refl _, Or.inr rfl⟩
      · rw [if_neg cc]
        have := icc_nlt (m := v3.toInt) (n := (cmg d (g 44) i m).toInt) rfl rfl cc
        exact ⟨Int.le_refl _, this, Or.inl rfl⟩
    refine ⟨m + 1, ew, by omega, ⟨?_, ?_, fun k h1 h2 h3 => ?_⟩, fun k hk => ?_, fun k hk => ?_, ?_, ?_⟩
    · show g25 43 = g2 43
      rw [e25, ← z43]; exact funext fun _ => upd2_nk (by decide)
    · show g25 46 = g2 46
      rw [e25, ← z46]; exact funext fun _ => upd2_nk (by decide)
    · show g25 k = g k
      rw [e25, ← zk k h1 h2 h3]; exact funext fun _ => upd2_nk h3
    · show g25 47 k = _
      rcases (by omega : k < m ∨ k = m) with h | h
      · rw [e25, upd2_nj (by omega)]; exact hc k h
      · subst h; exact a47
    · show _ ≤ x26.toInt
      rcases (by omega : k < m ∨ k = m) with h | h
      · have := hle k h; omega
      · subst h; exact hx.2.1
    · show x26 = d 1 i ∨ ∃ k, k < m + 1 ∧ x26 = cmg d (g 44) i k
      rcases hx.2.2 with e | e
      · rcases hor with e' | ⟨k, k1, k2⟩
        · exact Or.inl (e.trans e')
        · exact Or.inr ⟨k, by omega, e.trans k2⟩
      · exact Or.inr ⟨m, by omega, e⟩
    · show (d 1 i).toInt ≤ x26.toInt
      omega
