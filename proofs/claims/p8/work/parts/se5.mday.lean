/-! ===== the reference's day is a day ===== -/
def MD (cs : Nat → List Int) (n : Nat) (d : gT) : Prop := ((d 0 1).toInt = (n : Int) ∧ n ≤ 12) ∧ WF n d ∧ (∀ i, i < n → 0 ≤ (d 8 i).toInt ∧ (d 8 i).toInt ≤ 6) ∧ (d 0 52 = -1 ∨ ∃ r p : Nat, (d 0 52).toInt = (r : Int) ∧ (d 10 r).toInt = (p : Int) ∧ At (d 11) p (enc (cs r) ++ [0]) ∧ rp (cs r) 0 1)
/-- nothing but the day is written -/
def Em (d g : gT) : Prop := ∀ k, (k < 29 ∨ 35 < k) → g k = d k
theorem off_m {fu : Nat} {a b : Int32} {g : gT} {L : lT} : Pc (fX12_off fu a b g L) (fun x g1 _ => g1 = g ∧ x = off a b) := by
  unfold fX12_off fX12_off_p14 off
  refine pc_ite (fun c => pc_some ⟨rfl, ?_⟩) (fun c => pc_some ⟨rfl, ?_⟩)
  · rw [if_pos c]
  · rw [if_neg c]
theorem stair_m {fu : Nat} {a b : Int32} {g : gT} {L : lT} : Pc (fX12_isStair fu a b g L) (fun x g1 _ => g1 = g ∧ (x = 0 ↔ (5 ≤ a.toInt ↔ 5 ≤ b.toInt))) := by
  unfold fX12_isStair fX12_isStair_p10 fX12_isStair_p20 fX12_isStair_p28
  have i5 : (5 : Int32).toInt = 5 := rfl
  refine pc_ite (fun c => ?_) (fun c => ?_)
  · have c := icc_le i5 (n := a.toInt) rfl c
    refine pc_ite (fun c1 => ?_) (fun c1 => ?_)
    · have c1 := icc_le i5 (n := b.toInt) rfl c1
      rw [if_pos rfl]
      exact pc_ckb (pc_some ⟨rfl, ⟨fun _ => ⟨fun _ => c1, fun _ => c⟩, fun _ => rfl⟩⟩)
    · have c1 := icc_nle i5 (n := b.toInt) rfl c1
      rw [if_neg (by decide)]
      exact pc_ckb (pc_some ⟨rfl, ⟨fun h => absurd h (by decide), fun h => absurd (h.mp c) (by omega)⟩⟩)
  · have c := icc_nle i5 (n := a.toInt) rfl c
    refine pc_ite (fun c1 => ?_) (fun c1 => ?_)
    · have c1 := icc_le i5 (n := b.toInt) rfl c1
      rw [if_neg (by decide)]
      exact pc_ckb (pc_some ⟨rfl, ⟨fun h => absurd h (by decide), fun h => absurd (h.mpr c1) (by omega)⟩⟩)
    · have c1 := icc_nle i5 (n := b.toInt) rfl c1
      rw [if_pos rfl]
      exact pc_ckb (pc_some ⟨rfl, ⟨fun _ => ⟨fun h => absurd h (by omega), fun h => absurd h (by omega)⟩, fun _ => rfl⟩⟩)
theorem way_m {fu j i : Nat} {p1 p2 : Int32} {g d : gT} {L : lT} (e : Em d g) (hj : p1.toInt = (j : Int)) (hi : p2.toInt = (i : Int)) (j12 : j < 12) (i12 : i < 12) : Pc (fX12_way fu p1 p2 g L) (fun x g1 _ => g1 = g ∧ x = wy d j i) := by
  have ej : p1.toNatClampNeg = j := by rw [nc, hj]; omega
  have e1 : (24 + p1).toNatClampNeg = 24 + j := by rw [nc, ic_addc (m := 24) rfl hj (by omega) (by omega)]; omega
  have e2 : (24 + p2).toNatClampNeg = 24 + i := by rw [nc, ic_addc (m := 24) rfl hi (by omega) (by omega)]; omega
  unfold fX12_way fX12_way_p63 wy
  rw [ej, e1, e2, e 12 (by omega), e 0 (by omega)]
  refine pc_ck (fun _ _ => pc_lti (fun x1 q1 => pc_ck (fun _ _ => pc_lti (fun x2 q2 => pc_cb off_m (fun x3 g4 L5 q3 => pc_cb stair_m (fun x7 g8 L9 q7 => ?_))))))
  obtain ⟨rfl, q3⟩ := q3
  obtain ⟨rfl, q7⟩ := q7
  rw [q1, q2] at q7
  rw [q1, q2] at q3
  rw [e 0 (by omega), e 4 (by omega)]
  refine pc_ite (fun c => pc_some ⟨rfl, ?_⟩) (fun c => pc_ck (fun _ _ => pc_cnz (pc_some ⟨rfl, ?_⟩)))
  · rw [if_pos (q7.mp c), q3]
  · rw [if_neg (fun h => c (q7.mpr h)), q3]
theorem comes_m {fu j i : Nat} {p1 p2 : Int32} {g d : gT} {L : lT} (e : Em d g) (hj : p1.toInt = (j : Int)) (hi : p2.toInt = (i : Int)) (j12 : j < 12) (i12 : i < 12) : Pc (fX12_comes fu p1 p2 g L) (fun x g1 _ => g1 = g ∧ x = g 32 j + wy d j i - d 12 (12 + i)) := by
  have ej : p1.toNatClampNeg = j := by rw [nc, hj]; omega
  have e2 : (12 + p2).toNatClampNeg = 12 + i := by rw [nc, ic_addc (m := 12) rfl hi (by omega) (by omega)]; omega
  unfold fX12_comes
  rw [ej, e2]
  refine pc_ck (fun _ _ => pc_cb (way_m e hj hi j12 i12) (fun x1 g2 L3 q => pc_ck (fun _ _ => pc_some ?_)))
  obtain ⟨rfl, q⟩ := q
  exact ⟨rfl, by rw [q, e 12 (by omega)]⟩
theorem cn_0 {c : Nat → Int} {w : Int} : cn c 0 w = 0 := rfl
theorem cn_ins {S T : Nat → Int} {y : Nat} {v w : Int} (h1 : ∀ k, k < y → T k = S k) (h2 : T y = v) : ∀ m, y ≤ m → (∀ k, y ≤ k → k < m → T (k + 1) = S k) → cn T (m + 1) w = cn S m w + (if v ≤ w then 1 else 0) := by
  intro m
  induction m with
  | zero =>
    intro hy _
    have : y = 0 := by omega
    subst this
    rw [cn_s, h2]; rfl
  | succ m ih =>
    intro hy hk
    rcases (by omega : y ≤ m ∨ y = m + 1) with hh | hh
    · rw [cn_s, ih hh (fun k a b => hk k a (by omega)), hk m hh (by omega), cn_s]
      omega
    · subst hh
      rw [cn_s, h2, cn_c (c := T) (c' := S) (v := w) (v' := w) (fun k hk => by rw [h1 k hk])]
theorem cn_tail {c : Nat → Int} {w : Int} {a : Nat} : ∀ {n : Nat}, a ≤ n → (∀ j, a ≤ j → j < n → ¬ c j ≤ w) → cn c n w = cn c a w := by
  intro n
  induction n with
  | zero => intro h _; rw [show a = 0 by omega]
  | succ n ih =>
    intro h hk
    rcases (by omega : a ≤ n ∨ a = n + 1) with hh | hh
    · rw [cn_s, if_neg (hk n hh (by omega)), ih hh (fun j x y => hk j x (by omega))]; rfl
    · rw [hh]
theorem cn_n {c : Nat → Int} {w : Int} {a : Nat} : ∀ {n : Nat}, a ≤ n → cn c a w ≤ cn c n w := by
  intro n
  induction n with
  | zero => intro h; rw [show a = 0 by omega]; exact Nat.le_refl _
  | succ n ih =>
    intro h
    rcases (by omega : a ≤ n ∨ a = n + 1) with hh | hh
    · have := ih hh
      rw [cn_s]; omega
    · rw [hh]; exact Nat.le_refl _
/-- of a sorted row, the k-th -/
theorem kth_s {S C : Nat → Int} {n k : Nat} (h1 : 1 ≤ k) (h2 : k ≤ n) (hs : ∀ a b, a ≤ b → b < n → S a ≤ S b) (hc : ∀ w, cn S n w = cn C n w) : KTH C n k (S (k - 1)) := by
  refine ⟨?_, fun w hw => ?_⟩
  · rw [← hc]
    have a := cn_all (c := S) (v := S (k - 1)) (n := k) (fun j hj => hs j (k - 1) (by omega) (by omega))
    have b := cn_n (c := S) (w := S (k - 1)) h2
    omega
  · rw [← hc, cn_tail (a := k - 1) (by omega) (fun j a b => by have := hs (k - 1) j a b; omega)]
    have := cn_le (c := S) (v := w) (n := k - 1)
    omega
/-- by when so many are there -/
theorem there_m {cs : Nat → List Int} {n i fu : Nat} {p1 p2 : Int32} {g d : gT} {L : lT} (hM : MD cs n d) (e : Em d g) (hi : p1.toInt = (i : Int)) (ni : i < n) (k1 : 1 ≤ p2.toInt) (k2 : p2.toInt ≤ (d 8 i).toInt) : Pc (fX12_thereBy fu p1 p2 g L) (fun x g1 _ => KTH (fun k => (cmg d (g 32) i k).toInt) (d 8 i).toInt.toNat p2.toInt.toNat x.toInt ∧ ∀ k, k ≠ 35 → g1 k = g k) := by
  obtain ⟨⟨-, n12⟩, hW, h8, -⟩ := hM
  have b8 := h8 i ni
  obtain ⟨N, hN⟩ : ∃ N : Nat, (d 8 i).toInt = (N : Int) := ⟨(d 8 i).toInt.toNat, by omega⟩
  have hNn : (d 8 i).toInt.toNat = N := by omega
  have ei : p1.toNatClampNeg = i := by rw [nc, hi]; omega
  unfold fX12_thereBy
  rw [ei, e 8 (by omega), hNn]
  refine pc_ck (fun _ _ => pc_lti (fun x1 q1 => ?_))
  subst q1
  unfold fX12_thereBy_l10
  refine pc_loop (fun v => ∃ m : Nat, v.1.toInt = (m : Int) ∧ m ≤ N ∧ (∀ k, k ≠ 35 → v.2.1 k = g k) ∧ (∀ a b, a ≤ b → b < m → (v.2.1 35 a).toInt ≤ (v.2.1 35 b).toInt) ∧ ∀ w, cn (fun k => (v.2.1 35 k).toInt) m w = cn (fun k => (cmg d (g 32) i k).toInt) m w) (fun k10 hk v hv => ?_) ⟨0, rfl, by omega, fun _ _ => rfl, fun _ _ _ h => absurd h (Nat.not_lt_zero _), fun _ => cn_0.trans cn_0.symm⟩
  obtain ⟨v4, g', L'⟩ := v
  obtain ⟨m, hm, mN, zk, hs, hc⟩ := hv
  replace hm : v4.toInt = (m : Int) := hm
  replace zk : ∀ k, k ≠ 35 → g' k = g k := zk
  replace hs : ∀ a b, a ≤ b → b < m → (g' 35 a).toInt ≤ (g' 35 b).toInt := hs
  replace hc : ∀ w, cn (fun k => (g' 35 k).toInt) m w = cn (fun k => (cmg d (g 32) i k).toInt) m w := hc
  show Pc (fX12_thereBy_s10 fu p1 p2 (d 8 i) k10 v4 g' L') _
  unfold fX12_thereBy_s10
  refine pc_ite (fun c => pc_ck (fun _ _ => pc_some ⟨?_, zk⟩)) (fun c => ?_)
  · have c := icc_le hN hm c
    have em : m = N := by omega
    subst em
    have e2 : (p2 - 1).toNatClampNeg = p2.toInt.toNat - 1 := by rw [nc, ic_subc (n := 1) rfl rfl (by omega) (by omega)]; omega
    rw [e2]
    exact kth_s (S := fun k => (g' 35 k).toInt) (by omega) (by omega) hs hc
  · have c := icc_nle hN hm c
    have wm := (hW i ni).2.2 m (by omega)
    have e6 : (6 * p1).toInt = 6 * (i : Int) := ic_mulc (m := 6) rfl hi (by omega) (by omega)
    have e7 : (6 * p1 + v4).toNatClampNeg = 6 * i + m := by rw [nc, ic_addc e6 hm (by omega) (by omega)]; omega
    have ew : (v4 + 1).toInt = ((m + 1 : Nat) : Int) := by rw [ic_addc hm (n := 1) rfl (by omega) (by omega)]; omega
    have e' : Em d g' := fun k hk => by rw [zk k (by omega), e k hk]
    rw [e7, e' 9 (by omega)]
    refine pc_ck (fun _ _ => pc_cb (comes_m e' (j := wf0 d i m) (by unfold wf0; omega) hi (by unfold wf0; omega) (by omega)) (fun x3 g4 L5 q => ?_))
    obtain ⟨rfl, q⟩ := q
    rw [zk 32 (by decide)] at q
    have q : x3 = cmg d (g 32) i m := q
    -- x3 goes in
    unfold fX12_thereBy_l39
    refine pc_loop (fun v => ∃ y : Nat, v.1.toInt = (y : Int) ∧ y ≤ m ∧ (∀ k, k ≠ 35 → v.2.1 k = g k) ∧ (∀ k, k < y → v.2.1 35 k = g4 35 k) ∧ (∀ k, y ≤ k → k < m → v.2.1 35 (k + 1) = g4 35 k ∧ x3.toInt < (g4 35 k).toInt)) (fun k39 hk39 v hv => ?_) ⟨m, hm, Nat.le_refl _, zk, fun _ _ => rfl, fun k a b => by omega⟩
    obtain ⟨v6, g2, L2⟩ := v
    obtain ⟨y, hy, ym, zk2, t1, t2⟩ := hv
    replace hy : v6.toInt = (y : Int) := hy
    replace zk2 : ∀ k, k ≠ 35 → g2 k = g k := zk2
    replace t1 : ∀ k, k < y → g2 35 k = g4 35 k := t1
    replace t2 : ∀ k, y ≤ k → k < m → g2 35 (k + 1) = g4 35 k ∧ x3.toInt < (g4 35 k).toInt := t2
    have ey : v6.toNatClampNeg = y := by rw [nc, hy]; omega
    have fin : ∀ (La : lT), (0 < y → (g4 35 (y - 1)).toInt ≤ x3.toInt) → Pc (fX12_thereBy_p80 fu k10 p1 p2 (d 8 i) v4 x3 v6 g2 La) (fun x g1 _ => KTH (fun k => (cmg d (g 32) i k).toInt) N p2.toInt.toNat x.toInt ∧ ∀ k, k ≠ 35 → g1 k = g k) := by
      intro La hy0
      unfold fX12_thereBy_p80
      rw [ey]
      refine pc_ck (fun _ _ => pc_st (fun g7 e7 => hk _ ⟨m + 1, ew, by omega, fun k hk => ?_, ?_, fun w => ?_⟩))
      · show g7 k = g k
        rw [e7, ← zk2 k hk]; exact funext fun _ => upd2_nk hk
      · show ∀ a b, a ≤ b → b < m + 1 → (g7 35 a).toInt ≤ (g7 35 b).toInt
        have T1 : ∀ k, k < y → g7 35 k = g4 35 k := fun k hk => by rw [e7, upd2_nj (by omega), t1 k hk]
        have T2 : g7 35 y = x3 := by rw [e7, upd2_at]
        have T3 : ∀ k, y < k → k ≤ m → g7 35 k = g4 35 (k - 1) ∧ x3.toInt < (g4 35 (k - 1)).toInt := fun k a b => by
          have := t2 (k - 1) (by omega) (by omega)
          rw [show k - 1 + 1 = k by omega] at this
          rw [e7, upd2_nj (by omega)]; exact this
        intro a b hab hb
        rcases (by omega : a < y ∨ a = y ∨ y < a) with ha | ha | ha
        · rw [T1 a ha]
          rcases (by omega : b < y ∨ b = y ∨ y < b) with hb' | hb' | hb'
          · rw [T1 b hb']; exact hs a b hab (by omega)
          · rw [hb', T2]
            have := hs a (y - 1) (by omega) (by omega)
            have := hy0 (by omega)
            omega
          · rw [(T3 b hb' (by omega)).1]; exact hs a (b - 1) (by omega) (by omega)
        · rcases (by omega : b = y ∨ y < b) with hb' | hb'
          · rw [ha, hb']; exact Int.le_refl _
          · rw [ha, T2, (T3 b hb' (by omega)).1]
            have := (T3 b hb' (by omega)).2
            omega
        · rw [(T3 a ha (by omega)).1, (T3 b (by omega) (by omega)).1]
          exact hs (a - 1) (b - 1) (by omega) (by omega)
      · show cn (fun k => (g7 35 k).toInt) (m + 1) w = _
        rw [cn_ins (S := fun k => (g4 35 k).toInt) (y := y) (v := x3.toInt) (fun k hk => by
          show (g7 35 k).toInt = _
          rw [e7, upd2_nj (by omega), t1 k hk]) (by
          show (g7 35 y).toInt = _
          rw [e7, upd2_at]) m ym (fun k a b => by
          show (g7 35 (k + 1)).toInt = _
          rw [e7, upd2_nj (by omega), (t2 k a b).1]), hc w, cn_s, q]
    show Pc (fX12_thereBy_s39 fu k10 p1 p2 (d 8 i) v4 x3 k39 v6 g2 L2) _
    unfold fX12_thereBy_s39
    refine pc_ite (fun c1 => fin L2 (fun h => ?_)) (fun c1 => ?_)
    · have c1 := icc_le hy (n := 0) rfl c1
      omega
    have c1 := icc_nle hy (n := 0) rfl c1
    have ey1 : (v6 - 1).toNatClampNeg = y - 1 := by rw [nc, ic_subc hy (n := 1) rfl (by omega) (by omega)]; omega
    rw [ey1, ey, t1 (y - 1) (by omega)]
    refine pc_ck (fun _ _ => pc_ite (fun c2 => fin L2 (fun _ => icc_le (m := (g4 35 (y - 1)).toInt) (n := x3.toInt) rfl rfl c2)) (fun c2 => pc_ck (fun _ _ => pc_ck (fun _ _ => pc_st (fun g10 e10 => hk39 _ ⟨y - 1, ?_, by omega, fun k hk => ?_, fun k hk => ?_, fun k a b => ?_⟩)))))
    · show (v6 + (-1)).toInt = _
      rw [ic_addc hy (n := -1) rfl (by omega) (by omega)]; omega
    · show g10 k = g k
      rw [e10, ← zk2 k hk]; exact funext fun _ => upd2_nk hk
    · show g10 35 k = _
      rw [e10, upd2_nj (by omega)]; exact t1 k (by omega)
    · have c2 := icc_nle (m := (g4 35 (y - 1)).toInt) (n := x3.toInt) rfl rfl c2
      show g10 35 (k + 1) = _ ∧ _
      rcases (by omega : k = y - 1 ∨ y ≤ k) with hk' | hk'
      · subst hk'
        rw [e10, show y - 1 + 1 = y by omega, upd2_at]
        exact ⟨rfl, c2⟩
      · rw [e10, upd2_nj (by omega)]
        exact t2 k hk' b
