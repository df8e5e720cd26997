/-! ===== the reference's day is a day: running over, all lessons ===== -/
theorem ru_t {cs : Nat → List Int} {fu i : Nat} {p1 v : Int32} {g d : gT} {L : lT} (e61 : g 0 61 = d 0 61) (pi : Int32.ofInt (i : Int) = p1) : Pc (fX12_runsOver_p117 fu p1 v g L) (fun x _ _ => x = clp (if d 0 61 = Int32.ofInt i then 180 else 60) v) := by
  unfold fX12_runsOver_p117 fX12_runsOver_p133 fX12_runsOver_p152 clp
  rw [e61, pi]
  refine pc_ite (fun c => ?_) (fun c => ?_)
  · rw [if_pos c]
    refine pc_ite (fun a => pc_ite (fun b => pc_some ?_) (fun b => pc_some ?_)) (fun a => pc_some ?_)
    · rw [if_pos a, if_pos b]
    · rw [if_pos a, if_neg b]
    · rw [if_neg a]
  · rw [if_neg c]
    refine pc_ite (fun a => pc_ite (fun b => pc_some ?_) (fun b => pc_some ?_)) (fun a => pc_some ?_)
    · rw [if_pos a, if_pos b]
    · rw [if_pos a, if_neg b]
    · rw [if_neg a]
theorem ru_m {cs : Nat → List Int} {n i fu : Nat} {p1 : Int32} {g d : gT} {L : lT} (hM : MD cs n d) (e : Em d g) (hi : p1.toInt = (i : Int)) (ni : i < n) : Pc (fX12_runsOver fu p1 g L) (fun x _ _ => x = ov cs d i (g 31 i)) := by
  obtain ⟨⟨-, n12⟩, -, -, h52⟩ := hM
  have ei : p1.toNatClampNeg = i := by rw [nc, hi]; omega
  have pi : Int32.ofInt (i : Int) = p1 := by rw [← hi]; exact io_i
  have e0 : (0 + p1).toNatClampNeg = i := by rw [nc, ic_addc (m := 0) rfl hi (by omega) (by omega)]; omega
  have e24 : (24 + p1).toNatClampNeg = 24 + i := by rw [nc, ic_addc (m := 24) rfl hi (by omega) (by omega)]; omega
  unfold fX12_runsOver
  rw [ov_e]
  have es : ((g 0 60 >>> (p1 &&& 31)) &&& 1) = stb (d 0 60) i := by unfold stb; rw [pi, e 0 (by omega)]
  rw [es, ei, e0, e24, e 12 (by omega)]
  refine pc_ite (fun c => pc_some ?_) (fun c => ?_)
  · rw [if_pos c]
  rw [if_neg c]
  unfold gv
  refine pc_ck (fun _ _ => pc_lti (fun x2 q2 => ?_))
  have i52 : g 0 52 = d 0 52 := by rw [e 0 (by omega)]
  rw [i52]
  refine pc_ite (fun c1 => ?_) (fun c1 => ?_)
  · rw [if_pos c1, ← q2]
    exact ru_t (cs := cs) (by rw [e 0 (by omega)]) pi
  rw [if_neg c1]
  refine pc_ck (fun _ _ => pc_st (fun g7 e7 => pc_ck (fun _ _ => pc_ck (fun _ _ => pc_ck (fun _ _ => pc_st (fun g8 e8 => pc_ck (fun _ _ => pc_ck (fun _ _ => pc_st (fun g9 e9 => pc_ck (fun _ _ => pc_ck (fun _ _ => pc_st (fun g10 e10 => pc_ck (fun _ _ => pc_ck (fun _ _ => pc_st (fun g11 e11 => pc_ck (fun _ _ => pc_st (fun g12 e12 => ?_)))))))))))))))))
  have n7 : ∀ k j, k ≠ 29 → g7 k j = g k j := fun k j hk => by rw [e7, upd2_nk hk]
  have n8 : ∀ k j, k ≠ 29 → g8 k j = g k j := fun k j hk => by rw [e8, upd2_nk hk, n7 k j hk]
  have n9 : ∀ k j, k ≠ 29 → g9 k j = g k j := fun k j hk => by rw [e9, upd2_nk hk, n8 k j hk]
  have n10 : ∀ k j, k ≠ 29 → g10 k j = g k j := fun k j hk => by rw [e10, upd2_nk hk, n9 k j hk]
  have n11 : ∀ k j, k ≠ 29 → g11 k j = g k j := fun k j hk => by rw [e11, upd2_nk hk, n10 k j hk]
  have n12' : ∀ k j, k ≠ 29 → g12 k j = g k j := fun k j hk => by rw [e12, upd2_nk hk, n11 k j hk]
  have i0 : Int32.toNatClampNeg 0 = 0 := rfl
  have i1 : Int32.toNatClampNeg 1 = 1 := rfl
  have i2 : Int32.toNatClampNeg 2 = 2 := rfl
  have i3 : Int32.toNatClampNeg 3 = 3 := rfl
  have i4 : Int32.toNatClampNeg 4 = 4 := rfl
  have i5 : Int32.toNatClampNeg 5 = 5 := rfl
  rw [i0, q2] at e7
  rw [i1, n7 31 i (by decide), n7 1 i (by decide), e 1 (by omega)] at e8
  rw [i2, n8 31 i (by decide)] at e9
  rw [i3, n9 12 _ (by decide), e 12 (by omega)] at e10
  rw [i4, n10 4 i (by decide), e 4 (by omega)] at e11
  rw [i5, ← pi] at e12
  have htl : ∀ j, j ≤ 5 → g12 29 j = tl d (g 31 i) i j := by
    intro j hj
    rcases (by omega : j = 0 ∨ j = 1 ∨ j = 2 ∨ j = 3 ∨ j = 4 ∨ j = 5) with rfl | rfl | rfl | rfl | rfl | rfl
    · rw [e12, upd2_nj (by decide), e11, upd2_nj (by decide), e10, upd2_nj (by decide), e9, upd2_nj (by decide), e8, upd2_nj (by decide), e7, upd2_at]; rfl
    · rw [e12, upd2_nj (by decide), e11, upd2_nj (by decide), e10, upd2_nj (by decide), e9, upd2_nj (by decide), e8, upd2_at]; rfl
    · rw [e12, upd2_nj (by decide), e11, upd2_nj (by decide), e10, upd2_nj (by decide), e9, upd2_at]; rfl
    · rw [e12, upd2_nj (by decide), e11, upd2_nj (by decide), e10, upd2_at]; rfl
    · rw [e12, upd2_nj (by decide), e11, upd2_at]; rfl
    · rw [e12, upd2_at]; rfl
  rcases h52 with c | ⟨r, p, r1, r2, r3, r4⟩
  · exact absurd c c1
  have er : (g12 0 52).toNatClampNeg = r := by rw [nc, n12' 0 52 (by decide), i52, r1]; omega
  have er' : (d 0 52).toInt.toNat = r := by omega
  rw [er, n12' 10 r (by decide), e 10 (by omega), er']
  have k11 : g12 11 = d 11 := by
    rw [← e 11 (by omega)]
    exact funext fun j => n12' 11 j (by decide)
  refine pc_ck (fun _ _ => pc_cb (pc_and (re_m (cs := cs r) (q := p) r2 (by rw [k11]; exact r3) r4) (pc_kp (w_fX12_reckons g12 fu _ g12 L FW.refl))) (fun x13 g14 L15 q => ?_))
  obtain ⟨q, f⟩ := q
  have e61 : g14 0 61 = d 0 61 := by
    rw [f 0 61 (by decide) (by decide), n12' 0 61 (by decide), e 0 (by omega)]
  rw [ev_t htl, ev_c (s' := fun _ => 0) r4 (fun i hi => absurd hi (Nat.not_lt_zero _))] at q
  rw [← q]
  exact ru_t (cs := cs) e61 pi
/-- the first m lessons are run -/
def WR (cs : Nat → List Int) (d : gT) (m : Nat) (g : gT) : Prop := DY cs d m (g 31) (g 32) (g 33) (g 34) ∧ Em d g
theorem wk_end {cs : Nat → List Int} {n m fu : Nat} {v1 v2 : Int32} {g d : gT} {L : lT} {k2 : Int32 × (Nat → Nat → Int32) × (Nat → Nat → Int64) → Option (Unit × zS)} {Q : Unit → gT → lT → Prop} (hM : MD cs n d) (hm : v1.toInt = (m : Int)) (mn : m < n) (hw : WR cs d m g) (hb : g 31 m = v2) (hl : LB d (g 32) m (g 31 m) (g 34 m)) (hk : ∀ (v : Int32) (g1 : gT) (L1 : lT), v.toInt = ((m + 1 : Nat) : Int) → WR cs d (m + 1) g1 → Pc (k2 (v, g1, L1)) Q) : Pc (fX12_works0_p199 fu k2 v1 v2 g L) Q := by
  obtain ⟨hw, e⟩ := hw
  have n12 := hM.1.2
  have hW := hM.2.1
  have ei : v1.toNatClampNeg = m := by rw [nc, hm]; omega
  have ew : (v1 + 1).toInt = ((m + 1 : Nat) : Int) := by rw [ic_addc hm (n := 1) rfl (by omega) (by omega)]; omega
  unfold fX12_works0_p199 fX12_works0_p244
  rw [ei]
  refine pc_cb (pc_and (ru_m hM e hm mn) (pc_kp (w_fX12_runsOver g fu v1 g L FW.refl))) (fun x5 g6 L7 q => ?_)
  obtain ⟨q5, f6⟩ := q
  have k6 : ∀ k, k ≠ 29 → k ≠ 30 → g6 k = g k := fun k h1 h2 => f6.c (by
    intro hm
    have : k = 29 ∨ k = 30 := by simpa using hm
    omega) (by simp)
  refine pc_ck (fun _ _ => pc_st (fun g9 e9 => pc_ck (fun _ _ => pc_ck (fun _ _ => ?_))))
  have k9 : ∀ k, k ≠ 29 → k ≠ 30 → k ≠ 33 → g9 k = g k := fun k h1 h2 h3 => by
    rw [e9, ← k6 k h1 h2]; exact funext fun _ => upd2_nk h3
  have a33 : g9 33 m = x5 := by rw [e9, upd2_at]
  have o33 : ∀ j, j ≠ m → g9 33 j = g 33 j := fun j hj => by rw [e9, upd2_nj hj, k6 33 (by decide) (by decide)]
  rw [k9 3 (by decide) (by decide) (by decide), k9 2 (by decide) (by decide) (by decide), e 3 (by omega), e 2 (by omega), a33]
  have go : ∀ t0 : Int32, t0 = (if d 2 m < v2 + d 3 m then v2 + d 3 m else d 2 m) → Pc (ck v1 12 (ck v1 12 (sti g9 32 m (t0 + x5) (fun g10 => k2 (v1 + 1, g10, L7))))) Q := by
    intro t0 ht
    refine pc_ck (fun _ _ => pc_ck (fun _ _ => pc_st (fun g10 e10 => hk _ g10 L7 ew ⟨fun i hi => ?_, fun k hk => ?_⟩)))
    · have a31 : g10 31 = g 31 := by rw [e10, ← k9 31 (by decide) (by decide) (by decide)]; exact funext fun _ => upd2_nk (by decide)
      have a34 : g10 34 = g 34 := by rw [e10, ← k9 34 (by decide) (by decide) (by decide)]; exact funext fun _ => upd2_nk (by decide)
      have b33 : g10 33 = g9 33 := by rw [e10]; exact funext fun _ => upd2_nk (by decide)
      have b32 : ∀ j, j ≠ m → g10 32 j = g 32 j := fun j hj => by rw [e10, upd2_nj hj, k9 32 (by decide) (by decide) (by decide)]
      rw [a31, a34, b33]
      rcases (by omega : i < m ∨ i = m) with hh | hh
      · exact (hw i hh).c hW (by omega) (fun j hj => (b32 j (by omega)).symm) rfl (o33 i (by omega)).symm rfl
      · subst hh
        refine ⟨hl.c hW mn (fun j hj => (b32 j (by omega)).symm), by rw [a33]; exact q5, ?_⟩
        rw [a33, e10, upd2_at, ht, hb]
    · show g10 k = d k
      rw [← e k hk, ← k9 k (by omega) (by omega) (by omega), e10]
      exact funext fun _ => upd2_nk (by omega)
  refine pc_ite (fun c => pc_ck (fun _ _ => go _ ?_)) (fun c => pc_ck (fun _ _ => go _ ?_))
  · rw [if_neg (fun h => by
      have a := ic_lt.mp h
      have b := ic_le.mp c
      omega)]
  · have c := icc_nle (m := (v2 + d 3 m).toInt) (n := (d 2 m).toInt) rfl rfl c
    rw [if_pos (ic_lt.mpr c)]
/-- what is known when a lesson begins -/
def BG (d : gT) (en : Nat → Int32) (m : Nat) (v2 v3 : Int32) : Prop := (v3 = 0 ∧ LB d en m v2 (-1)) ∨ (v3 = 1 ∧ (d 5 m).toInt ≠ 2 ∧ KTH (fun k => (cmg d en m k).toInt) (d 8 m).toInt.toNat (if (d 5 m).toInt = 0 then d 8 m else d 6 m).toInt.toNat v2.toInt ∧ (d 1 m).toInt < v2.toInt ∧ v2.toInt ≤ (d 1 m + d 12 (36 + m)).toInt)
theorem wk_by {cs : Nat → List Int} {n m fu : Nat} {v1 v2 v3 : Int32} {g d : gT} {L : lT} {k2 : Int32 × (Nat → Nat → Int32) × (Nat → Nat → Int64) → Option (Unit × zS)} {Q : Unit → gT → lT → Prop} (hM : MD cs n d) (hm : v1.toInt = (m : Int)) (mn : m < n) (hw : WR cs d m g) (hB : BG d (g 32) m v2 v3) (hk : ∀ (v : Int32) (g1 : gT) (L1 : lT), v.toInt = ((m + 1 : Nat) : Int) → WR cs d (m + 1) g1 → Pc (k2 (v, g1, L1)) Q) : Pc (fX12_works0_p118 fu k2 v1 v2 v3 g L) Q := by
  obtain ⟨hw, e⟩ := hw
  have n12 := hM.1.2
  have hW := hM.2.1
  have b8 := hM.2.2.1 m mn
  have w := hW m mn
  obtain ⟨N, hN⟩ : ∃ N : Nat, (d 8 m).toInt = (N : Int) := ⟨(d 8 m).toInt.toNat, by omega⟩
  have hNn : (d 8 m).toInt.toNat = N := by omega
  have ei : v1.toNatClampNeg = m := by rw [nc, hm]; omega
  unfold fX12_works0_p118
  rw [ei]
  refine pc_ck (fun _ _ => pc_st (fun g3 e3 => pc_ck (fun _ _ => pc_st (fun g4 e4 => ?_))))
  have k4 : ∀ k, k ≠ 31 → k ≠ 34 → g4 k = g k := fun k h1 h2 => by rw [e4, e3]; exact funext fun _ => by rw [upd2_nk h2, upd2_nk h1]
  have a31 : g4 31 m = v2 := by rw [e4, upd2_nk (by decide), e3, upd2_at]
  have o31 : ∀ j, j ≠ m → g4 31 j = g 31 j := fun j hj => by rw [e4, upd2_nk (by decide), e3, upd2_nj hj]
  have a34 : g4 34 m = -1 := by rw [e4, upd2_at]
  have o34 : ∀ j, j ≠ m → g4 34 j = g 34 j := fun j hj => by rw [e4, upd2_nj hj, e3, upd2_nk (by decide)]
  unfold fX12_works0_l135
  refine pc_loop (fun v => ∃ q : Nat, v.1.toInt = (q : Int) ∧ q ≤ N ∧ (∀ k, k ≠ 34 → v.2.1 k = g4 k) ∧ (∀ j, j ≠ m → v.2.1 34 j = g 34 j) ∧ ((v.2.1 34 m = -1 ∧ (v3 = 1 → ∀ k, k < q → cmg d (g 32) m k ≠ v2)) ∨ (v3 = 1 ∧ ∃ k, k < q ∧ v.2.1 34 m = d 9 (6 * m + k) ∧ cmg d (g 32) m k = v2 ∧ ∀ j, j < k → cmg d (g 32) m j ≠ v2))) (fun k135 hk1 v hv => ?_) ⟨0, rfl, by omega, fun _ _ => rfl, o34, Or.inl ⟨a34, fun _ k hk => absurd hk (Nat.not_lt_zero _)⟩⟩
  obtain ⟨v4, g', L'⟩ := v
  obtain ⟨q, hq, qN, zk, z34, hor⟩ := hv
  replace hq : v4.toInt = (q : Int) := hq
  replace zk : ∀ k, k ≠ 34 → g' k = g4 k := zk
  replace z34 : ∀ j, j ≠ m → g' 34 j = g 34 j := z34
  replace hor : (g' 34 m = -1 ∧ (v3 = 1 → ∀ k, k < q → cmg d (g 32) m k ≠ v2)) ∨ (v3 = 1 ∧ ∃ k, k < q ∧ g' 34 m = d 9 (6 * m + k) ∧ cmg d (g 32) m k = v2 ∧ ∀ j, j < k → cmg d (g 32) m j ≠ v2) := hor
  have zg : ∀ k, k ≠ 31 → k ≠ 34 → g' k = g k := fun k h1 h2 => by rw [zk k h2, k4 k h1 h2]
  have e' : Em d g' := fun k hk => by rw [zg k (by omega) (by omega), e k hk]
  have w' : WR cs d m g' := by
    refine ⟨fun i hi => ?_, e'⟩
    rw [zg 32 (by decide) (by decide), zg 33 (by decide) (by decide)]
    exact (hw i hi).c hW (by omega) (fun _ _ => rfl) (by rw [zk 31 (by decide), o31 i (by omega)]) rfl (z34 i (by omega)).symm
  have b31 : g' 31 m = v2 := by rw [zk 31 (by decide)]; exact a31
  have fin : ∀ La : lT, (v3 = 0 ∨ q = N) → Pc (fX12_works0_p199 fu k2 v1 v2 g' La) Q := by
    intro La hx
    refine wk_end hM hm mn w' b31 ?_ hk
    rw [b31, zg 32 (by decide) (by decide)]
    rcases hB with ⟨h0, hL⟩ | ⟨h1, h2, h3, h4, h5⟩
    · rcases hor with ⟨o1, -⟩ | ⟨o1, -⟩
      · rw [o1]; exact hL
      · rw [h0] at o1; exact absurd o1 (by decide)
    · have eq : q = N := by
        rcases hx with hx | hx
        · rw [h1] at hx; exact absurd hx (by decide)
        · exact hx
      refine Or.inr ⟨h2, v2, h3, Or.inr (Or.inr ⟨h4, h5, rfl, ?_⟩)⟩
      rcases hor with ⟨-, o2⟩ | ⟨-, k, u1, u2, u3, u4⟩
      · exfalso
        have hk1 : 1 ≤ (if (d 5 m).toInt = 0 then d 8 m else d 6 m).toInt.toNat := by
          have := w.2.1 h2
          split <;> omega
        obtain ⟨j, j1, j2⟩ := kth_mem hk1 h3
        exact o2 h1 j (by omega) (ic_eq.mpr j2)
      · exact ⟨k, by omega, u2, u3, u4⟩
  show Pc (fX12_works0_s135 fu k2 v1 v2 v3 k135 v4 g' L') _
  unfold fX12_works0_s135 fX12_works0_p193
  have e6 : (6 * v1).toInt = 6 * (m : Int) := ic_mulc (m := 6) rfl hm (by omega) (by omega)
  rw [ei, e' 8 (by omega), e' 9 (by omega)]
  refine pc_ck (fun _ _ => pc_ite (fun c => fin L' (Or.inr ?_)) (fun c => pc_ite (fun c1 => fin L' (Or.inl c1)) (fun c1 => pc_ck (fun _ _ => pc_lti (fun x14 e14 => pc_ck (fun _ _ => ?_))))))
  · have c := icc_le hN hq c
    omega
  have c := icc_nle hN hq c
  have v31 : v3 = 1 := by
    rcases hB with ⟨h0, -⟩ | ⟨h1, -⟩
    · exact absurd h0 c1
    · exact h1
  have e7 : (6 * v1 + v4).toNatClampNeg = 6 * m + q := by rw [nc, ic_addc e6 hq (by omega) (by omega)]; omega
  have eq1 : (v4 + 1).toInt = ((q + 1 : Nat) : Int) := by rw [ic_addc hq (n := 1) rfl (by omega) (by omega)]; omega
  have wq := w.2.2 q (by omega)
  rw [e7] at e14
  refine pc_ite (fun c2 => ?_) (fun c2 => hk1 _ ⟨q + 1, eq1, by omega, zk, z34, ?_⟩)
  · have o2 : ∀ k, k < q → cmg d (g 32) m k ≠ v2 := by
      rcases hor with ⟨-, o2⟩ | ⟨-, k, k1, u2, -⟩
      · exact o2 v31
      · exfalso
        rw [c2] at u2
        have := (w.2.2 k (by omega)).1
        rw [← u2] at this
        exact absurd this (by decide)
    refine pc_cb (comes_m e' (j := wf0 d m q) (by rw [e14]; unfold wf0; omega) hm (by unfold wf0; omega) (by omega)) (fun x16 g17 L18 q16 => ?_)
    obtain ⟨rfl, q16⟩ := q16
    rw [zg 32 (by decide) (by decide)] at q16
    have q16 : x16 = cmg d (g 32) m q := q16
    refine pc_ite (fun c3 => pc_ck (fun _ _ => pc_st (fun g21 e21 => hk1 _ ⟨q + 1, eq1, by omega, fun k hk => ?_, fun j hj => ?_, Or.inr ⟨v31, q, by omega, ?_, ?_, o2⟩⟩))) (fun c3 => hk1 _ ⟨q + 1, eq1, by omega, zk, z34, Or.inl ⟨c2, fun _ k hk => ?_⟩⟩)
    · show g21 k = g4 k
      rw [e21, ← zk k hk]; exact funext fun _ => upd2_nk hk
    · show g21 34 j = g 34 j
      rw [e21, upd2_nj hj]; exact z34 j hj
    · show g21 34 m = _
      rw [e21, upd2_at, e14]
    · rw [← q16]; exact c3
    · rcases (by omega : k < q ∨ k = q) with h | h
      · exact o2 k h
      · rw [h, ← q16]; exact c3
  · show (g' 34 m = -1 ∧ _) ∨ _
    rcases hor with ⟨o1, -⟩ | ⟨o1, k, k1, u⟩
    · exact absurd o1 c2
    · exact Or.inr ⟨o1, k, by omega, u⟩
theorem wk_m {cs : Nat → List Int} {n fu : Nat} {d : gT} {L : lT} (hM : MD cs n d) : Pc (fX12_works0 fu d L) (fun _ g1 _ => WR cs d n g1) := by
  unfold fX12_works0 fX12_works0_l2
  have hn := hM.1.1
  have n12 := hM.1.2
  refine pc_loop (fun v => ∃ m : Nat, v.1.toInt = (m : Int) ∧ m ≤ n ∧ WR cs d m v.2.1) (fun k2 hk v hv => ?_) ⟨0, rfl, by omega, fun i hi => absurd hi (Nat.not_lt_zero _), fun _ _ => rfl⟩
  obtain ⟨v1, g, L'⟩ := v
  obtain ⟨m, hm, mn, hw⟩ := hv
  replace hm : v1.toInt = (m : Int) := hm
  replace hw : WR cs d m g := hw
  show Pc (fX12_works0_s2 fu k2 v1 g L') _
  unfold fX12_works0_s2
  have e := hw.2
  have e01 : (g 0 1).toInt = (n : Int) := by rw [e 0 (by omega)]; exact hn
  have ei : v1.toNatClampNeg = m := by rw [nc, hm]; omega
  refine pc_ite (fun c => pc_some ?_) (fun c => ?_)
  · have c := icc_le e01 hm c
    rw [show n = m by omega]; exact hw
  have c := icc_nle e01 hm c
  have mn' : m < n := by omega
  have w := hM.2.1 m mn'
  have b8 := hM.2.2.1 m mn'
  have hk' : ∀ (v : Int32) (g1 : gT) (L1 : lT), v.toInt = ((m + 1 : Nat) : Int) → WR cs d (m + 1) g1 → Pc (k2 (v, g1, L1)) (fun _ g1 _ => WR cs d n g1) := fun v g1 L1 h1 h2 => hk (v, g1, L1) ⟨m + 1, h1, by omega, h2⟩
  have e36 : (36 + v1).toNatClampNeg = 36 + m := by rw [nc, ic_addc (m := 36) rfl hm (by omega) (by omega)]; omega
  rw [ei, e 1 (by omega), e 5 (by omega), e 8 (by omega), e 6 (by omega)]
  have p55 : ∀ (t0 : Int32) (La : lT), (d 5 m).toInt ≠ 2 → t0 = (if (d 5 m).toInt = 0 then d 8 m else d 6 m) → 1 ≤ t0.toInt → t0.toInt ≤ (d 8 m).toInt → Pc (fX12_works0_p55 fu k2 v1 (d 1 m) t0 v1 g La) (fun _ g1 _ => WR cs d n g1) := by
    intro t0 La h2 ht t1 t8
    unfold fX12_works0_p55 fX12_works0_p95 fX12_works0_p96 fX12_works0_p117
    rw [ei, e36]
    refine pc_cb (there_m hM e hm mn' t1 t8) (fun x23 g24 L25 q => ?_)
    obtain ⟨hK, zk⟩ := q
    rw [ht] at hK
    have e' : Em d g24 := fun k hk => by rw [zk k (by omega), e k hk]
    have w' : WR cs d m g24 := by
      refine ⟨?_, e'⟩
      rw [zk 31 (by decide), zk 32 (by decide), zk 33 (by decide), zk 34 (by decide)]
      exact hw.1
    rw [← zk 32 (by decide)] at hK
    rw [e' 1 (by omega), e' 12 (by omega)]
    refine pc_ck (fun _ _ => pc_ck (fun _ _ => pc_lti (fun x27 e27 => pc_ite (fun c1 => ?_) (fun c1 => ?_))))
    · rw [if_pos c1]
      have c1' := ic_le.mp c1
      exact wk_by hM hm mn' w' (Or.inl ⟨rfl, Or.inr ⟨h2, x23, hK, Or.inl ⟨c1', rfl, rfl⟩⟩⟩) hk'
    have c1' := icc_nle (m := x23.toInt) (n := (d 1 m).toInt) rfl rfl c1
    rw [if_neg c1]
    refine pc_ite (fun c2 => ?_) (fun c2 => ?_)
    · have c2 := ic_lt.mp c2
      rw [if_pos (ic_le.mpr (by omega))]
      exact wk_by hM hm mn' w' (Or.inl ⟨rfl, Or.inr ⟨h2, x23, hK, Or.inr (Or.inl ⟨c1', by rw [← e27]; exact c2, e27, rfl⟩)⟩⟩) hk'
    · have c2 := icc_nlt (m := x27.toInt) (n := x23.toInt) rfl rfl c2
      rw [if_neg c1]
      have key : Pc (fX12_works0_p118 fu k2 v1 x23 1 g24 L25) (fun _ g1 _ => WR cs d n g1) := wk_by hM hm mn' w' (Or.inr ⟨rfl, h2, hK, c1', by rw [← e27]; exact c2⟩) hk'
      refine pc_ite (fun c3 => ?_) (fun _ => key)
      have c3 := ic_le.mp c3
      rw [show x27 = x23 from ic_eq.mpr (by omega)]
      exact key
  refine pc_ck (fun _ _ => pc_lti (fun x2 e2 => pc_ck (fun _ _ => ?_)))
  subst e2
  refine pc_ite (fun c1 => ?_) (fun c1 => pc_ck (fun _ _ => pc_ite (fun c2 => pc_ck (fun _ _ => ?_)) (fun c2 => pc_ck (fun _ _ => ?_))))
  · have c1 : (d 5 m).toInt = 2 := icc_eq (n := 2) rfl rfl c1
    exact wk_by hM hm mn' hw (Or.inl ⟨rfl, Or.inl ⟨c1, rfl, rfl⟩⟩) hk'
  · have c1 : ¬ (d 5 m).toInt = 2 := icc_neq (n := 2) rfl rfl c1
    have c2 : (d 5 m).toInt = 0 := icc_eq (n := 0) rfl rfl c2
    have w1 := w.2.1 c1
    exact p55 _ L' c1 (by rw [if_pos c2]) (by omega) (by omega)
  · have c1 : ¬ (d 5 m).toInt = 2 := icc_neq (n := 2) rfl rfl c1
    have c2 : ¬ (d 5 m).toInt = 0 := icc_neq (n := 0) rfl rfl c2
    have w1 := w.2.1 c1
    exact p55 _ L' c1 (by rw [if_neg c2]) (by omega) (by omega)
