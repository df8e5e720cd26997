/-! ===== acts, sightings, images: the data stay coupled ===== -/
def nA (n : Int) : Nat := if n < 40 then n.toNat else 39
def dA (n : Int) : Nat := if n < 40 then 0 else 1
theorem nA_b {n : Int} (h0 : 0 ≤ n) (h4 : n ≤ 40) : bmp n = (nA n : Int) + 1 := by
  unfold bmp nA
  by_cases h : n < 40
  · rw [if_pos h]
    first | rw [if_pos h] | rw [if_neg (by omega)]
    omega
  · rw [if_neg h]
    first | rw [if_neg h] | rw [if_pos (by omega)]
    omega
/-- an act is kept, in the class -/
def KA (p1 p2 p3 : Int32) (g g1 : gT) : Prop := (∀ k, k < nA (g 6 9).toInt → g1 29 k = g 29 (k + dA (g 6 9).toInt) ∧ g1 30 k = g 30 (k + dA (g 6 9).toInt) ∧ g1 31 k = g 31 (k + dA (g 6 9).toInt)) ∧ (g1 29 (nA (g 6 9).toInt) = p1 ∧ g1 30 (nA (g 6 9).toInt) = p2 ∧ g1 31 (nA (g 6 9).toInt) = p3) ∧ (∀ k, k ≠ 29 → k ≠ 30 → k ≠ 31 → k ≠ 6 → g1 k = g k) ∧ (∀ j, j ≠ 9 → g1 6 j = g 6 j)
theorem cpy_s {f : Nat → Int32} {j : Nat} : va_cpy f f (Int32.toNatClampNeg 1) (Int32.toNatClampNeg 0) (Int32.toNatClampNeg 39) j = if j < 39 then f (j + 1) else f j := by
  have e0 : Int32.toNatClampNeg 0 = 0 := rfl
  have e1 : Int32.toNatClampNeg 1 = 1 := rfl
  have e39 : Int32.toNatClampNeg 39 = 39 := rfl
  rw [e0, e1, e39]
  unfold va_cpy
  by_cases hj : j < 39
  · rw [if_pos ⟨Nat.zero_le _, by omega⟩, if_pos hj]
    congr 1; omega
  · rw [if_neg (fun h => hj (by omega)), if_neg hj]
theorem keepAct_x {fu : Nat} {p1 p2 p3 : Int32} {g : gT} {L : lT} (h0 : 0 ≤ (g 6 9).toInt) (h4 : (g 6 9).toInt ≤ 40) : Pc (fX3_keepAct_6 fu p1 p2 p3 g L) (fun _ g1 _ => KA p1 p2 p3 g g1) := by
  have P13 : ∀ (ga : gT) (La : lT), (ga 6 9).toInt = (nA (g 6 9).toInt : Int) → (∀ k, k < nA (g 6 9).toInt → ga 29 k = g 29 (k + dA (g 6 9).toInt) ∧ ga 30 k = g 30 (k + dA (g 6 9).toInt) ∧ ga 31 k = g 31 (k + dA (g 6 9).toInt)) → (∀ k, k ≠ 29 → k ≠ 30 → k ≠ 31 → k ≠ 6 → ga k = g k) → (∀ j, j ≠ 9 → ga 6 j = g 6 j) → Pc (fX3_keepAct_6_p13 fu p1 p2 p3 ga La) (fun _ g1 _ => KA p1 p2 p3 g g1) := by
    intro ga La hn h1 h2 h3
    unfold fX3_keepAct_6_p13
    refine pc_ck (fun _ _ => pc_st (fun gb eb => pc_ck (fun _ _ => pc_st (fun gc ec => pc_ck (fun _ _ => pc_st (fun gd ed => pc_st (fun ge ee => pc_some ?_)))))))
    have eN : (ga 6 9).toNatClampNeg = nA (g 6 9).toInt := by rw [nc, hn]; omega
    have b69 : gb 6 9 = ga 6 9 := by rw [eb]; rfl
    have c69 : gc 6 9 = ga 6 9 := by rw [ec]; exact b69
    rw [eN] at eb
    rw [b69, eN] at ec
    rw [c69, eN] at ed
    refine ⟨fun k hk => ?_, ⟨?_, ?_, ?_⟩, fun k a b c d => ?_, fun j hj => ?_⟩
    · obtain ⟨y1, y2, y3⟩ := h1 k hk
      have hne : k ≠ nA (g 6 9).toInt := by omega
      refine ⟨?_, ?_, ?_⟩
      · rw [ee, upd2_nk (by decide), ed, upd2_nk (by decide), ec, upd2_nk (by decide), eb, upd2_nj hne]; exact y1
      · rw [ee, upd2_nk (by decide), ed, upd2_nk (by decide), ec, upd2_nj hne, eb, upd2_nk (by decide)]; exact y2
      · rw [ee, upd2_nk (by decide), ed, upd2_nj hne, ec, upd2_nk (by decide), eb, upd2_nk (by decide)]; exact y3
    · rw [ee, upd2_nk (by decide), ed, upd2_nk (by decide), ec, upd2_nk (by decide), eb, upd2_at]
    · rw [ee, upd2_nk (by decide), ed, upd2_nk (by decide), ec, upd2_at]
    · rw [ee, upd2_nk (by decide), ed, upd2_at]
    · rw [← h2 k a b c d, ee, ed, ec, eb]
      exact funext fun i => by rw [upd2_nk d, upd2_nk c, upd2_nk b, upd2_nk a]
    · rw [ee, upd2_nj hj, ed, upd2_nk (by decide), ec, upd2_nk (by decide), eb, upd2_nk (by decide)]; exact h3 j hj
  unfold fX3_keepAct_6
  refine pc_ite (fun c => ?_) (fun c => ?_)
  · have c := icc_lt (m := (g 6 9).toInt) (n := 40) rfl (by decide) c
    have em : nA (g 6 9).toInt = (g 6 9).toInt.toNat := by unfold nA; rw [if_pos c]
    have ed : dA (g 6 9).toInt = 0 := by unfold dA; rw [if_pos c]
    refine P13 g L (by rw [em]; omega) (fun k _ => ?_) (fun _ _ _ _ _ => rfl) (fun _ _ => rfl)
    rw [ed]; exact ⟨rfl, rfl, rfl⟩
  · have c := icc_nlt (m := (g 6 9).toInt) (n := 40) rfl (by decide) c
    have em : nA (g 6 9).toInt = 39 := by unfold nA; rw [if_neg (by omega)]
    have ed : dA (g 6 9).toInt = 1 := by unfold dA; rw [if_neg (by omega)]
    unfold fX3_dropFirstAct_6
    refine pc_cb (P := fun (_ : Unit) ga _ => ga = upd2 (updA (updA (updA g 29 (va_cpy (g 29) (g 29) (Int32.toNatClampNeg 1) (Int32.toNatClampNeg 0) (Int32.toNatClampNeg 39))) 30 (va_cpy (g 30) (g 30) (Int32.toNatClampNeg 1) (Int32.toNatClampNeg 0) (Int32.toNatClampNeg 39))) 31 (va_cpy (g 31) (g 31) (Int32.toNatClampNeg 1) (Int32.toNatClampNeg 0) (Int32.toNatClampNeg 39))) 6 9 39) (fun x ga La e => by
      have e : some ((), _) = some (x, ((ga, La) : zS)) := e
      cases e; rfl) (fun _ ga La ea => ?_)
    refine P13 ga La (by rw [em, ea, upd2_at]; rfl) (fun k hk => ?_) (fun k a b c d => ?_) (fun j hj => ?_)
    · rw [em] at hk
      rw [ed, ea]
      refine ⟨?_, ?_, ?_⟩
      · rw [upd2_nk (by decide), updA_ne (by decide), updA_ne (by decide), updA_at, cpy_s, if_pos hk]
      · rw [upd2_nk (by decide), updA_ne (by decide), updA_at, cpy_s, if_pos hk]
      · rw [upd2_nk (by decide), updA_at, cpy_s, if_pos hk]
    · rw [ea]
      exact funext fun i => by rw [upd2_nk d, updA_ne c, updA_ne b, updA_ne a]
    · rw [ea, upd2_nj hj, updA_ne (by decide), updA_ne (by decide), updA_ne (by decide)]
/-- an act is kept, in the reference -/
def KM (p1 p2 : Int32) (g g1 : gT) : Prop := (∀ j, j < 2 * nA (g 0 62).toInt → g1 36 j = g 36 (j + 2 * dA (g 0 62).toInt)) ∧ (g1 36 (2 * nA (g 0 62).toInt) = p1 ∧ g1 36 (2 * nA (g 0 62).toInt + 1) = p2) ∧ (∀ k, k ≠ 36 → k ≠ 0 → g1 k = g k) ∧ (∀ j, j ≠ 62 → g1 0 j = g 0 j)
theorem keeps_m {fu : Nat} {p1 p2 : Int32} {g : gT} {L : lT} (h0 : 0 ≤ (g 0 62).toInt) (h4 : (g 0 62).toInt ≤ 40) : Pc (fX12_keeps fu p1 p2 g L) (fun _ g1 _ => KM p1 p2 g g1) := by
  have P47 : ∀ (ga : gT) (La : lT), (ga 0 62).toInt = (nA (g 0 62).toInt : Int) → (∀ j, j < 2 * nA (g 0 62).toInt → ga 36 j = g 36 (j + 2 * dA (g 0 62).toInt)) → (∀ k, k ≠ 36 → k ≠ 0 → ga k = g k) → (∀ j, j ≠ 62 → ga 0 j = g 0 j) → Pc (fX12_keeps_p47 fu p1 p2 ga La) (fun _ g1 _ => KM p1 p2 g g1) := by
    intro ga La hn h1 h2 h3
    unfold fX12_keeps_p47
    refine pc_ck (fun _ _ => pc_st (fun gb eb => pc_ck (fun _ _ => pc_st (fun gc ec => pc_st (fun gd ed => pc_some ?_)))))
    have hm : (nA (g 0 62).toInt : Int) ≤ 39 := by unfold nA; split <;> omega
    have e2 : (2 * ga 0 62).toInt = 2 * (nA (g 0 62).toInt : Int) := by rw [← hn]; exact ic_mulc (by decide) rfl (by omega) (by omega)
    have eN : (2 * ga 0 62).toNatClampNeg = 2 * nA (g 0 62).toInt := by rw [nc, e2]; omega
    have b62 : gb 0 62 = ga 0 62 := by rw [eb]; rfl
    have e3 : (2 * ga 0 62 + 1).toInt = 2 * (nA (g 0 62).toInt : Int) + 1 := ic_addc e2 (by decide) (by omega) (by omega)
    have eM : (2 * ga 0 62 + 1).toNatClampNeg = 2 * nA (g 0 62).toInt + 1 := by rw [nc, e3]; omega
    rw [eN] at eb
    rw [b62, eM] at ec
    refine ⟨fun j hj => ?_, ⟨?_, ?_⟩, fun k a b => ?_, fun j hj => ?_⟩
    · rw [ed, upd2_nk (by decide), ec, upd2_nj (by omega), eb, upd2_nj (by omega)]; exact h1 j hj
    · rw [ed, upd2_nk (by decide), ec, upd2_nj (by omega), eb, upd2_at]
    · rw [ed, upd2_nk (by decide), ec, upd2_at]
    · rw [← h2 k a b, ed, ec, eb]
      exact funext fun i => by rw [upd2_nk b, upd2_nk a, upd2_nk a]
    · rw [ed, upd2_nj hj, ec, upd2_nk (by decide), eb, upd2_nk (by decide)]; exact h3 j hj
  unfold fX12_keeps
  refine pc_ite (fun c => ?_) (fun c => ?_)
  rotate_left
  · have c := icc_neq (m := (g 0 62).toInt) (n := 40) rfl (by decide) c
    have em : nA (g 0 62).toInt = (g 0 62).toInt.toNat := by unfold nA; rw [if_pos (by omega)]
    have ed : dA (g 0 62).toInt = 0 := by unfold dA; rw [if_pos (by omega)]
    exact P47 g L (by rw [em]; omega) (fun k _ => by rw [ed]; rfl) (fun _ _ _ => rfl) (fun _ _ => rfl)
  · have c := icc_eq (m := (g 0 62).toInt) (n := 40) rfl (by decide) c
    have em : nA (g 0 62).toInt = 39 := by unfold nA; rw [if_neg (by omega)]
    have ed : dA (g 0 62).toInt = 1 := by unfold dA; rw [if_neg (by omega)]
    unfold fX12_keeps_l11
    refine pc_loop (fun v => (2 ≤ v.1.toInt ∧ v.1.toInt ≤ 80) ∧ (∀ j : Nat, v.2.1 36 j = if (j : Int) + 2 < v.1.toInt then g 36 (j + 2) else g 36 j) ∧ (∀ k, k ≠ 36 → v.2.1 k = g k)) (fun k hk v hv => ?_) ⟨(show 2 ≤ (2 : Int32).toInt ∧ (2 : Int32).toInt ≤ 80 from by decide), fun j => (if_neg (fun h => absurd (show (j : Int) + 2 < 2 from h) (by omega))).symm, fun _ _ => rfl⟩
    obtain ⟨v3, g', L'⟩ := v
    obtain ⟨hr, h1, h2⟩ := hv
    replace hr : 2 ≤ v3.toInt ∧ v3.toInt ≤ 80 := hr
    replace h1 : ∀ j : Nat, g' 36 j = if (j : Int) + 2 < v3.toInt then g 36 (j + 2) else g 36 j := h1
    replace h2 : ∀ k, k ≠ 36 → g' k = g k := h2
    show Pc (fX12_keeps_s11 fu p1 p2 k v3 g' L') _
    unfold fX12_keeps_s11
    refine pc_ite (fun c3 => pc_st (fun ga ea => ?_)) (fun c3 => pc_ck (fun _ _ => pc_ck (fun _ _ => pc_st (fun gb eb => hk _ ?_))))
    · have c3 := icc_le (m := 80) (n := v3.toInt) (by decide) rfl c3
      refine P47 ga L' ?_ (fun j hj => ?_) (fun k a b => ?_) (fun j hj => ?_)
      · rw [em, ea, upd2_at, h2 0 (by decide), ic_subc (m := (g 0 62).toInt) (n := 1) rfl (by decide) (by omega) (by omega)]; omega
      · rw [em] at hj
        rw [ea, upd2_nk (by decide), h1 j, if_pos (by omega), ed]
      · rw [ea, ← h2 k a]; exact funext fun i => upd2_nk b
      · rw [ea, upd2_nj hj, h2 0 (by decide)]
    · have c3 := icc_nle (m := 80) (n := v3.toInt) (by decide) rfl c3
      have ew : (v3 + 1).toInt = v3.toInt + 1 := ic_addc rfl (by decide) (by omega) (by omega)
      have es : (v3 - 2).toInt = v3.toInt - 2 := ic_subc rfl (by decide) (by omega) (by omega)
      have eN : (v3 - 2).toNatClampNeg = v3.toInt.toNat - 2 := by rw [nc, es]; omega
      have eM : v3.toNatClampNeg = v3.toInt.toNat := by rw [nc]
      rw [eN, eM] at eb
      refine ⟨(show 2 ≤ (v3 + 1).toInt ∧ (v3 + 1).toInt ≤ 80 by omega), fun j => ?_, fun k a => ?_⟩
      · show gb 36 j = if (j : Int) + 2 < (v3 + 1).toInt then g 36 (j + 2) else g 36 j
        rw [eb]
        by_cases e : j = v3.toInt.toNat - 2
        · rw [e, upd2_at, h1, if_neg (by omega), if_pos (by omega)]
          congr 1; omega
        · rw [upd2_nj e, h1 j]
          by_cases hj : (j : Int) + 2 < v3.toInt
          · rw [if_pos hj, if_pos (by omega)]
          · rw [if_neg hj, if_neg (by omega)]
      · show gb k = g k
        rw [eb, ← h2 k a]; exact funext fun i => upd2_nk a
theorem ac_keep {g gm g1 g2 : gT} {p1 p2 p3 w v : Int32} (e69 : g 6 9 = gm 0 62) (h0 : 0 ≤ (gm 0 62).toInt) (h4 : (gm 0 62).toInt ≤ 40) (h : AC (gm 0 62).toInt 29 36 g gm) (hx : KA p1 p2 p3 g g1) (hm : KM w v gm g2) (new : ((p1.toInt = 4 ∧ w.toInt = 48) ∨ ((0 ≤ p1.toInt ∧ p1.toInt ≤ 3) ∧ (0 ≤ p2.toInt ∧ p2.toInt ≤ 11) ∧ w.toInt = 12 * p1.toInt + p2.toInt)) ∧ p3 = v) : AC (bmp (gm 0 62).toInt) 29 36 g1 g2 := by
  obtain ⟨x1, ⟨x2, x3, x4⟩, -, -⟩ := hx
  obtain ⟨y1, ⟨y2, y3⟩, -, -⟩ := hm
  rw [e69] at x1 x2 x3 x4
  rw [nA_b h0 h4]
  generalize hM : nA (gm 0 62).toInt = M at *
  have hd : ∀ k : Nat, k < M → ((k + dA (gm 0 62).toInt : Nat) : Int) < (gm 0 62).toInt := by
    intro k hk
    rw [← hM] at hk
    unfold nA at hk
    unfold dA
    split at hk
    · rw [if_pos (by assumption)]; omega
    · rw [if_neg (by assumption)]; omega
  intro k hk
  by_cases hkM : k < M
  · obtain ⟨z1, z2, z3⟩ := x1 k hkM
    have z := h (k + dA (gm 0 62).toInt) (hd k hkM)
    have e1 : g2 36 (2 * k) = gm 36 (2 * (k + dA (gm 0 62).toInt)) := by rw [y1 (2 * k) (by omega)]; congr 1; omega
    have e2 : g2 36 (2 * k + 1) = gm 36 (2 * (k + dA (gm 0 62).toInt) + 1) := by rw [y1 (2 * k + 1) (by omega)]; congr 1; omega
    show (((g1 29 k).toInt = 4 ∧ (g2 36 (2 * k)).toInt = 48) ∨ ((0 ≤ (g1 29 k).toInt ∧ (g1 29 k).toInt ≤ 3) ∧ (0 ≤ (g1 30 k).toInt ∧ (g1 30 k).toInt ≤ 11) ∧ (g2 36 (2 * k)).toInt = 12 * (g1 29 k).toInt + (g1 30 k).toInt)) ∧ g1 31 k = g2 36 (2 * k + 1)
    rw [z1, z2, z3, e1, e2]
    exact z
  · obtain rfl : k = M := by omega
    show (((g1 29 k).toInt = 4 ∧ (g2 36 (2 * k)).toInt = 48) ∨ ((0 ≤ (g1 29 k).toInt ∧ (g1 29 k).toInt ≤ 3) ∧ (0 ≤ (g1 30 k).toInt ∧ (g1 30 k).toInt ≤ 11) ∧ (g2 36 (2 * k)).toInt = 12 * (g1 29 k).toInt + (g1 30 k).toInt)) ∧ g1 31 k = g2 36 (2 * k + 1)
    rw [x2, x3, x4, y2, y3]
    exact new
