section
/-! ===== the reference: keeping, seeing, tens, portions ===== -/
section MH
abbrev MQ1 (g0 : Nat → Nat → Int32) (g1 : Nat → Nat → Int32) : Prop := zI MT g1 ∧ mJ g1 ∧ g1 0 18 = g0 0 18 ∧ g1 0 2 = g0 0 2
theorem toNat_eq {x : Int32} {n : Nat} (h : x.toInt = (n : Int)) : x.toNatClampNeg = n := by rw [nc]; omega
set_option maxHeartbeats 4000000 in
theorem sX12_keeps_p47 (fu : Nat) (v1 v2 : Int32) (g : Nat → Nat → Int32) (L : Nat → Nat → Int64) (hI : zI MT g) (ha : 0 ≤ (g 0 62).toInt ∧ (g 0 62).toInt ≤ 39) (hl : mLes (g 0 1) (g 5) (g 6) (g 8)) (hf : (g 0 52).toInt < (g 0 2).toInt) (hA : mAct (g 0 2) (g 0 62) (g 36)) (hs : mSee (g 0 73) (g 43) ∧ mCod (g 0 2) (g 10) (g 11) ∧ ((g 0 81).toInt ≠ 0 → (g 0 82).toInt < (g 0 2).toInt ∧ mAct (g 0 2) (g 0 83) (g 49) ∧ mSee (g 0 84) (g 50))) (h1 : 0 ≤ v1.toInt ∧ v1.toInt ≤ 48) (h2 : v1.toInt = 48 → -1 ≤ v2.toInt ∧ v2.toInt < (g 0 2).toInt) : Ex (fX12_keeps_p47 fu v1 v2 g L) (fun (r : Unit) g1 L1 => MQ1 g g1) := by
  unfold fX12_keeps_p47
  generalize hz : 2 * (g 0 62) = z
  have ez : z.toInt = 2 * (g 0 62).toInt := by rw [← hz]; exact ic_mulc (by decide) rfl (by omega) (by omega)
  refine Ex.ck (by omega) (by omega) ?_
  refine Ex.sti (hI.updN rfl) (fun g1 g1e hI => ?_)
  have e1 : g1 0 62 = g 0 62 := by rw [g1e]; rfl
  rw [e1, hz]
  generalize hy : z + 1 = y
  have ey : y.toInt = z.toInt + 1 := by rw [← hy]; exact ic_addc rfl (by decide) (by omega) (by omega)
  refine Ex.ck (by omega) (by omega) ?_
  refine Ex.sti (hI.updN rfl) (fun g2 g2e hI => ?_)
  have e2 : g2 0 62 = g 0 62 := by rw [g2e, g1e]; rfl
  rw [e2]
  generalize hw : (g 0 62) + 1 = w
  have ew : w.toInt = (g 0 62).toInt + 1 := by rw [← hw]; exact ic_addc rfl (by decide) (by omega) (by omega)
  refine Ex.sti (hI.upd (lo := 0) (hi := 40) rfl (by omega) (by omega)) (fun g3 g3e hI => ?_)
  have o : ∀ k, k ≠ 36 → k ≠ 0 → g3 k = g k := fun k hk h0 => by rw [g3e, g2e, g1e]; funext j; rw [upd2_nk h0, upd2_nk hk, upd2_nk hk]
  have o0 : ∀ j, j ≠ 62 → g3 0 j = g 0 j := fun j hj => by rw [g3e, upd2_nj hj, g2e, g1e]; rfl
  have hA3 : mAct (g3 0 2) (g3 0 62) (g3 36) := by
    have q1 : g3 0 62 = w := by rw [g3e]; exact upd2_at
    have q2 : g3 36 = g2 36 := by rw [g3e]; rfl
    rw [o0 2 (by decide), q1, q2]
    intro k hk
    by_cases hka : (k : Int) < (g 0 62).toInt
    · have u1 : g2 36 (2 * k) = g 36 (2 * k) := by rw [g2e, upd2_nj (by rw [nc]; omega), g1e, upd2_nj (by rw [nc]; omega)]
      have u2 : g2 36 (2 * k + 1) = g 36 (2 * k + 1) := by rw [g2e, upd2_nj (by rw [nc]; omega), g1e, upd2_nj (by rw [nc]; omega)]
      rw [u1, u2]; exact hA k hka
    · have n1 : z.toNatClampNeg = 2 * k := toNat_eq (by omega)
      have n2 : y.toNatClampNeg = 2 * k + 1 := toNat_eq (by omega)
      have u1 : g2 36 (2 * k) = v1 := by rw [g2e, upd2_nj (by rw [n2]; omega), g1e, n1, upd2_at]
      have u2 : g2 36 (2 * k + 1) = v2 := by rw [g2e, n2, upd2_at]
      rw [u1, u2]; exact ⟨h1.1, h1.2, h2⟩
  refine Ex.ret ⟨hI, ?_, o0 18 (by decide), o0 2 (by decide)⟩
  unfold mJ
  refine ⟨?_, ?_, hA3, ?_⟩
  · rw [o0 1 (by decide), o 5 (by decide) (by decide), o 6 (by decide) (by decide), o 8 (by decide) (by decide)]; exact hl
  · rw [o0 52 (by decide), o0 2 (by decide)]; exact hf
  · rw [o0 73 (by decide), o0 2 (by decide), o0 81 (by decide), o0 82 (by decide), o0 83 (by decide), o0 84 (by decide), o 43 (by decide) (by decide), o 10 (by decide) (by decide), o 11 (by decide) (by decide), o 49 (by decide) (by decide), o 50 (by decide) (by decide)]; exact hs
set_option maxHeartbeats 4000000 in
theorem sX12_keeps (fu : Nat) (hfu : 1180591620717411303424 ≤ fu) (p1 p2 : Int32) (g0 : Nat → Nat → Int32) (L0 : Nat → Nat → Int64) (hI : zI MT g0) (hJ : mJ g0) (h1 : 0 ≤ p1.toInt ∧ p1.toInt ≤ 48) (h2 : p1.toInt = 48 → -1 ≤ p2.toInt ∧ p2.toInt < (g0 0 2).toInt) : Ex (fX12_keeps fu p1 p2 g0 L0) (fun (r : Unit) g1 L1 => MQ1 g0 g1) := by
  have ha := hI 0 62 0 40 rfl
  unfold fX12_keeps
  refine Ex.ite (fun c => ?_) (fun c => ?_)
  · have c := icc_eq (m := (g0 0 62).toInt) (n := 40) rfl (by decide) c
    unfold fX12_keeps_l11
    have e2c : (2 : Int32).toInt = 2 := by decide
    refine Ex.loop (α := Int32 × (Nat → Nat → Int32) × (Nat → Nat → Int64)) (fun v => (2 ≤ v.1.toInt ∧ v.1.toInt ≤ 80) ∧ zI MT v.2.1 ∧ (∀ k, k ≠ 36 → v.2.1 k = g0 k) ∧ (∀ j : Nat, (j : Int) + 2 < v.1.toInt → v.2.1 36 j = g0 36 (j + 2)) ∧ (∀ j : Nat, v.1.toInt ≤ (j : Int) + 2 → v.2.1 36 j = g0 36 j)) (fun v => 81 - v.1.toInt) (by omega) (by show 81 - (2 : Int32).toInt < (fu : Int); omega) ⟨(show 2 ≤ (2 : Int32).toInt ∧ (2 : Int32).toInt ≤ 80 from by omega), hI, fun _ _ => rfl, fun j hj => absurd (show (j : Int) + 2 < (2 : Int32).toInt from hj) (by omega), fun _ _ => rfl⟩ (fun k11 v hv ih => ?_)
    obtain ⟨v3, g, L⟩ := v
    obtain ⟨hv3, hI, ho, hlo, hhi⟩ := hv
    have hv3 : 2 ≤ v3.toInt ∧ v3.toInt ≤ 80 := hv3
    have hI : zI MT g := hI
    have ho : ∀ k, k ≠ 36 → g k = g0 k := ho
    have hlo : ∀ j : Nat, (j : Int) + 2 < v3.toInt → g 36 j = g0 36 (j + 2) := hlo
    have hhi : ∀ j : Nat, v3.toInt ≤ (j : Int) + 2 → g 36 j = g0 36 j := hhi
    have o0 : g 0 = g0 0 := ho 0 (by decide)
    show Ex (fX12_keeps_s11 fu p1 p2 k11 v3 g L) _
    unfold fX12_keeps_s11
    refine Ex.ite (fun c3 => ?_) (fun c3 => ?_)
    · have c3 := icc_le (m := 80) (n := v3.toInt) (by decide) rfl c3
      rw [o0]
      generalize hw : (g0 0 62) - 1 = w
      have ew : w.toInt = (g0 0 62).toInt - 1 := by rw [← hw]; exact ic_subc rfl (by decide) (by omega) (by omega)
      refine Ex.sti (hI.upd (lo := 0) (hi := 40) rfl (by omega) (by omega)) (fun g6 g6e hI => ?_)
      have q0 : ∀ j, j ≠ 62 → g6 0 j = g0 0 j := fun j hj => by rw [g6e, upd2_nj hj, o0]
      have q62 : g6 0 62 = w := by rw [g6e]; exact upd2_at
      have qk : ∀ k, k ≠ 36 → k ≠ 0 → g6 k = g0 k := fun k hk h0 => by rw [g6e]; funext j; rw [upd2_nk h0, ho k hk]
      have q36 : g6 36 = g 36 := by rw [g6e]; rfl
      obtain ⟨j1, j2, j3, j4⟩ := hJ
      refine Ex.mono (sX12_keeps_p47 fu p1 p2 g6 L hI (by rw [q62]; omega) ?_ ?_ ?_ ?_ h1 (by rw [q0 2 (by decide)]; exact h2)) (fun r g1 L1 h => ?_)
      · rw [q0 1 (by decide), qk 5 (by decide) (by decide), qk 6 (by decide) (by decide), qk 8 (by decide) (by decide)]; exact j1
      · rw [q0 52 (by decide), q0 2 (by decide)]; exact j2
      · rw [q0 2 (by decide), q62, q36]
        intro k hk
        have := j3 (k + 1) (by omega)
        rw [hlo (2 * k) (by omega), hlo (2 * k + 1) (by omega)]
        exact this
      · rw [q0 73 (by decide), q0 2 (by decide), q0 81 (by decide), q0 82 (by decide), q0 83 (by decide), q0 84 (by decide), qk 43 (by decide) (by decide), qk 10 (by decide) (by decide), qk 11 (by decide) (by decide), qk 49 (by decide) (by decide), qk 50 (by decide) (by decide)]; exact j4
      · exact ⟨h.1, h.2.1, h.2.2.1.trans (q0 18 (by decide)), h.2.2.2.trans (q0 2 (by decide))⟩
    · have c3 := icc_nle (m := 80) (n := v3.toInt) (by decide) rfl c3
      refine Ex.ck (by omega) (by omega) ?_
      generalize hz : v3 - 2 = z
      have ez : z.toInt = v3.toInt - 2 := by rw [← hz]; exact ic_subc rfl (by decide) (by omega) (by omega)
      refine Ex.ck (by omega) (by omega) ?_
      refine Ex.sti (hI.updN rfl) (fun g7 g7e hI => ?_)
      generalize hy : v3 + 1 = y
      have ey : y.toInt = v3.toInt + 1 := by rw [← hy]; exact ic_addc rfl (by decide) (by omega) (by omega)
      refine ih (y, g7, L) ⟨(show 2 ≤ y.toInt ∧ y.toInt ≤ 80 from by omega), hI, fun k hk => ?_, fun j hj => ?_, fun j hj => ?_⟩ (by show 81 - y.toInt < 81 - v3.toInt; omega) (by show 0 < 81 - v3.toInt; omega)
      · show g7 k = g0 k
        rw [g7e]; funext j; rw [upd2_nk hk, ho k hk]
      · have hj : (j : Int) + 2 < y.toInt := hj
        show g7 36 j = g0 36 (j + 2)
        by_cases h : (j : Int) + 2 < v3.toInt
        · rw [g7e, upd2_nj (by rw [nc]; omega)]; exact hlo j h
        · have n1 : z.toNatClampNeg = j := toNat_eq (by omega)
          have n2 : v3.toNatClampNeg = j + 2 := toNat_eq (by omega)
          rw [g7e, n1, upd2_at, n2]; exact hhi (j + 2) (by omega)
      · have hj : y.toInt ≤ (j : Int) + 2 := hj
        show g7 36 j = g0 36 j
        rw [g7e, upd2_nj (by rw [nc]; omega)]; exact hhi j (by omega)
  · have c := icc_neq (m := (g0 0 62).toInt) (n := 40) rfl (by decide) c
    exact sX12_keeps_p47 fu p1 p2 g0 L0 hI (by omega) hJ.1 hJ.2.1 hJ.2.2.1 hJ.2.2.2 h1 h2
set_option maxHeartbeats 4000000 in
theorem sX12_undo (fu : Nat) (hfu : 1180591620717411303424 ≤ fu) (g0 : Nat → Nat → Int32) (L0 : Nat → Nat → Int64) (hI : zI MT g0) (hJ : mJ g0) : Ex (fX12_undo fu g0 L0) (fun (r : Int32) g1 L1 => MQ1 g0 g1) := by
  have ha := hI 0 62 0 40 rfl
  unfold fX12_undo
  refine Ex.sti (hI.updN rfl) (fun g1 g1e hI => ?_)
  have hJ1 : mJ g1 := by rw [g1e]; exact hJ.upd rfl
  have q0 : ∀ j, j ≠ 0 → g1 0 j = g0 0 j := fun j hj => by rw [g1e, upd2_nj hj]
  have e62 : g1 0 62 = g0 0 62 := q0 62 (by decide)
  refine Ex.ite (fun c => Ex.ret ⟨hI, hJ1, q0 18 (by decide), q0 2 (by decide)⟩) (fun c => ?_)
  have c := icc_neq (m := (g1 0 62).toInt) (n := 0) rfl (by decide) c
  rw [e62] at c ⊢
  generalize hw : (g0 0 62) - 1 = w
  have ew : w.toInt = (g0 0 62).toInt - 1 := by rw [← hw]; exact ic_subc rfl (by decide) (by omega) (by omega)
  refine Ex.sti (hI.upd (lo := 0) (hi := 40) rfl (by omega) (by omega)) (fun g3 g3e hI => ?_)
  have e3 : g3 0 62 = w := by rw [g3e]; exact upd2_at
  have r0 : ∀ j, j ≠ 0 → j ≠ 62 → g3 0 j = g0 0 j := fun j h1 h2 => by rw [g3e, upd2_nj h2, q0 j h1]
  have e36 : g3 36 = g1 36 := by rw [g3e]; rfl
  rw [e3]
  have hA := hJ1.2.2.1 w.toNatClampNeg (by rw [e62, nc]; omega)
  have hJ3 : mJ g3 := by
    obtain ⟨j1, j2, j3, j4⟩ := hJ1
    rw [g3e]
    exact ⟨j1, j2, fun k hk => j3 k (by have hk : (k : Int) < w.toInt := hk
                                        rw [e62]; omega), j4⟩
  generalize hz : 2 * w = z
  have ez : z.toInt = 2 * w.toInt := by rw [← hz]; exact ic_mulc (by decide) rfl (by omega) (by omega)
  have nz : z.toNatClampNeg = 2 * w.toNatClampNeg := by rw [nc, nc]; omega
  generalize hy : z + 1 = y
  have ey : y.toInt = z.toInt + 1 := by rw [← hy]; exact ic_addc rfl (by decide) (by omega) (by omega)
  have ny : y.toNatClampNeg = z.toNatClampNeg + 1 := by rw [nc, nc]; omega
  rw [← nz, ← ny, ← e36] at hA
  have e2 : g1 0 2 = g3 0 2 := by rw [g3e]; rfl
  rw [e2] at hA
  have h2 := hI 0 2 0 4 rfl
  refine Ex.ck (by omega) (by omega) ?_
  refine Ex.ite (fun c4 => ?_) (fun c4 => ?_)
  · have c4 := icc_eq (m := (g3 36 z.toNatClampNeg).toInt) (n := 48) rfl (by decide) c4
    have hB := hA.2.2 c4
    refine Ex.ck (by omega) (by omega) ?_
    refine Ex.sti (hI.upd (lo := -1) (hi := 3) rfl (by omega) (by omega)) (fun g6 g6e hI => ?_)
    unfold fX12_undo_p89
    exact Ex.ret ⟨hI, by rw [g6e]; exact hJ3.force hB.2, by rw [g6e]; exact r0 18 (by decide) (by decide), by rw [g6e]; exact r0 2 (by decide) (by decide)⟩
  · have c4 := icc_neq (m := (g3 36 z.toNatClampNeg).toInt) (n := 48) rfl (by decide) c4
    refine Ex.ck (by omega) (by omega) (Ex.ck (by omega) (by omega) (Ex.ck (by omega) (by omega) ?_))
    refine Ex.sti (hI.updN rfl) (fun g5 g5e hI => ?_)
    unfold fX12_undo_p89
    exact Ex.ret ⟨hI, by rw [g5e]; exact hJ3.upd rfl, by rw [g5e]; exact r0 18 (by decide) (by decide), by rw [g5e]; exact r0 2 (by decide) (by decide)⟩
theorem il_bm {n : Int} (h1 : -9223372036854775808 ≤ n) (h2 : n ≤ 9223372036854775807) : n.bmod (2 ^ 64) = n := by
  rw [Int.bmod_def]
  split <;> omega
theorem il_mul {x y : Int64} (h1 : -9223372036854775808 ≤ x.toInt * y.toInt) (h2 : x.toInt * y.toInt ≤ 9223372036854775807) : (x * y).toInt = x.toInt * y.toInt := by
  rw [Int64.toInt_mul]; exact il_bm h1 h2
set_option maxHeartbeats 4000000 in
theorem sX12_tens (fu : Nat) (hfu : 1180591620717411303424 ≤ fu) (g0 : Nat → Nat → Int32) (L0 : Nat → Nat → Int64) (hI : zI MT g0) (hJ : mJ g0) : Ex (fX12_tens fu g0 L0) (fun (r : Int64) g1 L1 => zI MT g1 ∧ mJ g1 ∧ g1 0 18 = g0 0 18 ∧ g1 0 2 = g0 0 2 ∧ ¬ r = 0) := by
  have hu := hI 0 70 0 8 rfl
  unfold fX12_tens fX12_tens_l4
  have e0 : (0 : Int32).toInt = 0 := by decide
  have e1 : (1 : Int64).toInt = 1 := by decide
  have e10 : (10 : Int64).toInt = 10 := by decide
  refine Ex.loop (α := Int64 × Int32 × (Nat → Nat → Int32) × (Nat → Nat → Int64)) (fun v => (0 ≤ v.2.1.toInt ∧ v.2.1.toInt ≤ 8) ∧ v.1.toInt = 10 ^ v.2.1.toInt.toNat ∧ v.2.2.1 = g0) (fun v => 9 - v.2.1.toInt) (by omega) (by show 9 - (0 : Int32).toInt < (fu : Int); omega) ⟨(show 0 ≤ (0 : Int32).toInt ∧ (0 : Int32).toInt ≤ 8 from by omega), (show (1 : Int64).toInt = 10 ^ (0 : Int32).toInt.toNat from by decide), rfl⟩ (fun k4 v hv ih => ?_)
  obtain ⟨v1, v3, g, L⟩ := v
  obtain ⟨hb, hp, hg⟩ := hv
  have hb : 0 ≤ v3.toInt ∧ v3.toInt ≤ 8 := hb
  have hp : v1.toInt = 10 ^ v3.toInt.toNat := hp
  have hg : g = g0 := hg
  subst hg
  show Ex (fX12_tens_s4 fu k4 v1 v3 g L) _
  unfold fX12_tens_s4
  refine Ex.ite (fun c => Ex.ret ⟨hI, hJ, rfl, rfl, fun h => ?_⟩) (fun c => ?_)
  · rw [h] at hp
    have : (10 : Int) ^ v3.toInt.toNat ≠ 0 := by
      have := Int.pow_pos (n := 10) (m := v3.toInt.toNat) (by decide)
      omega
    exact this (hp.symm.trans (by decide))
  · have c := icc_nle (m := (g 0 70).toInt) (n := v3.toInt) rfl rfl c
    refine Ex.ltl (fun y ye => ?_)
    generalize hw : v3 + 1 = w
    have ew : w.toInt = v3.toInt + 1 := by rw [← hw]; exact ic_addc rfl (by decide) (by omega) (by omega)
    have hpw : (10 : Int) ^ w.toInt.toNat = 10 ^ v3.toInt.toNat * 10 := by
      have : w.toInt.toNat = v3.toInt.toNat + 1 := by omega
      rw [this, Int.pow_succ]
    have hle : (10 : Int) ^ v3.toInt.toNat ≤ 10 ^ 8 := by
      have hq : v3.toInt.toNat ≤ 8 := by omega
      have h3 : (10 : Nat) ^ v3.toInt.toNat ≤ 10 ^ 8 := Nat.pow_le_pow_right (by decide) hq
      exact_mod_cast h3
    have hpos := Int.pow_pos (n := 10) (m := v3.toInt.toNat) (by decide)
    refine ih (y, w, g, L) ⟨(show 0 ≤ w.toInt ∧ w.toInt ≤ 8 from by omega), ?_, rfl⟩ (by show 9 - w.toInt < 9 - v3.toInt; omega) (by show 0 < 9 - v3.toInt; omega)
    show y.toInt = 10 ^ w.toInt.toNat
    rw [ye, il_mul (by rw [hp, e10]; omega) (by rw [hp, e10]; omega), hp, e10, hpw]
theorem il_abs (a : Int) {b : Int} (h : b ≠ 0) : (a.tmod b).natAbs < b.natAbs := by
  rw [Int.natAbs_tmod]
  exact Nat.mod_lt _ (by omega)
theorem il_rem {x y : Int64} (hy : ¬ y = 0) : (x - x / y * y).toInt = x.toInt.tmod y.toInt := by
  rw [Int64.toInt_sub, Int64.toInt_mul, Int64.toInt_div]
  have hr := Int64.le_toInt y
  have hr2 := Int64.toInt_lt y
  have h0 : y.toInt ≠ 0 := fun h => hy (Int64.toInt_inj.mp (h.trans (by decide)))
  have e : x.toInt.tmod y.toInt = x.toInt - x.toInt.tdiv y.toInt * y.toInt := by
    have := Int.tmod_add_mul_tdiv x.toInt y.toInt
    rw [Int.mul_comm] at this
    omega
  rw [Int.sub_bmod_bmod, ← Int.sub_bmod_bmod, Int.bmod_mul_bmod, Int.sub_bmod_bmod, ← e]
  have h1 := il_abs x.toInt h0
  exact il_bm (by omega) (by omega)
set_option maxHeartbeats 4000000 in
theorem sX12_portion (fu : Nat) (hfu : 1180591620717411303424 ≤ fu) (p1 p2 : Int64) (p3 : Int32) (g0 : Nat → Nat → Int32) (L0 : Nat → Nat → Int64) (hI : zI MT g0) (hJ : mJ g0) (hz : ¬ p2 = 0) : Ex (fX12_portion fu p1 p2 p3 g0 L0) (fun (r : Int64) g1 L1 => zI MT g1 ∧ mJ g1 ∧ g1 0 18 = g0 0 18 ∧ g1 0 2 = g0 0 2) := by
  have hr := Int64.le_toInt p1
  have hr2 := Int64.toInt_lt p1
  unfold fX12_portion fX12_portion_l6
  refine Ex.loop (α := Int64 × Int64 × (Nat → Nat → Int32) × (Nat → Nat → Int64)) (fun v => ¬ v.1 = 0 ∧ v.2.2.1 = g0) (fun v => (v.2.1.toInt.natAbs : Int)) (by omega) (by show (p1.toInt.natAbs : Int) < (fu : Int); omega) ⟨hz, rfl⟩ (fun k6 v hv ih => ?_)
  obtain ⟨v5, v7, g, L⟩ := v
  obtain ⟨h5, hg⟩ := hv
  have h5 : ¬ v5 = 0 := h5
  have hg : g = g0 := hg
  subst hg
  show Ex (fX12_portion_s6 fu p1 p2 p3 k6 v5 v7 g L) _
  unfold fX12_portion_s6
  refine Ex.ite (fun c => ?_) (fun c => ?_)
  · have e : ∀ t0 : Int64, Ex (fX12_portion_p41 fu v5 t0 g L) (fun (r : Int64) g1 L1 => zI MT g1 ∧ mJ g1 ∧ g1 0 18 = g 0 18 ∧ g1 0 2 = g 0 2) := fun t0 => Ex.cnzL h5 (Ex.ret ⟨hI, hJ, rfl, rfl⟩)
    exact Ex.ite (fun _ => e _) (fun _ => e _)
  · have h7 : ¬ v7 = 0 := fun h => c (by rw [h]; exact k_lcmp 0)
    have h70 : v7.toInt ≠ 0 := fun h => h7 (Int64.toInt_inj.mp (h.trans (by decide)))
    refine Ex.cnzL h7 (Ex.ltl (fun y ye => ?_))
    refine ih (v7, y, g, L) ⟨h7, rfl⟩ ?_ ?_
    · show (y.toInt.natAbs : Int) < (v7.toInt.natAbs : Int)
      rw [ye, il_rem h7]
      have := il_abs v5.toInt h70
      omega
    · show 0 < (v7.toInt.natAbs : Int)
      omega
end MH
end
section
set_option maxHeartbeats 4000000 in
set_option maxRecDepth 100000 in
theorem sX12_chance (fu : Nat) (hfu : 1180591620717411303424 ≤ fu) (p1 : Int32) (p2 : Int32) (p3 : Int32) (g0 : Nat → Nat → Int32) (L0 : Nat → Nat → Int64) (hI : zI MT g0) (hJ : mJ g0) : Ex (fX12_chance fu p1 p2 p3 g0 L0) (fun (r : Int64) (g1 : Nat → Nat → Int32) (L1 : Nat → Nat → Int64) => zI MT g1 ∧ mJ g1 ∧ g1 0 18 = g0 0 18 ∧ g1 0 2 = g0 0 2) := by
  have k0_0 : g0 0 18 = g0 0 18 := rfl
  have k0_1 : g0 0 2 = g0 0 2 := rfl
  unfold fX12_chance
  refine Ex.sti (hI.updN rfl) (fun g1 g1e hI => ?_)
  have k0_0 : g1 0 18 = g0 0 18 := by rw [g1e]; exact k0_0
  have k0_1 : g1 0 2 = g0 0 2 := by rw [g1e]; exact k0_1
  have hJ : mJ g1 := by rw [g1e]; exact mJ.upd hJ rfl
  refine Ex.cb (sX12_isLesson fu hfu p1 g1 L0 hI hJ) (fun x2 g3 L4 hq6 => ?_)
  obtain ⟨hI, hJ, kk0, kk1, rb_, ip0⟩ := hq6
  have b7 : 0 ≤ (Int32.toInt x2) ∧ (Int32.toInt x2) ≤ 1 := rb_
  have ip8 : (Int32.toInt x2) = 1 → 0 ≤ (Int32.toInt p1) ∧ (Int32.toInt p1) ≤ 11 := ip0
  have hI : zI MT g3 := hI
  have hJ : mJ g3 := hJ
  have k0_0 : g3 0 18 = g0 0 18 := kk0.trans k0_0
  have k0_1 : g3 0 2 = g0 0 2 := kk1.trans k0_1
  have J38 : ∀ (g : Nat → Nat → Int32) (L : Nat → Nat → Int64), zI MT g → mJ g → g 0 18 = g0 0 18 → g 0 2 = g0 0 2 → Ex (fX12_chance_p38 fu g L) (fun (r : Int64) (g1 : Nat → Nat → Int32) (L1 : Nat → Nat → Int64) => zI MT g1 ∧ mJ g1 ∧ g1 0 18 = g0 0 18 ∧ g1 0 2 = g0 0 2) := by
    intro g L hI hJ k0_0 k0_1
    unfold fX12_chance_p38
    exact Ex.ret ⟨hI, hJ, k0_0, k0_1⟩
  refine Ex.ite (fun c9 => ?_) (fun c9 => ?_)
  ·
    have c9 := icc_eq (m := (Int32.toInt x2)) (n := 0) rfl (by decide) c9
    exact J38 g3 L4 hI hJ k0_0 k0_1
  ·
    have c9 := icc_neq (m := (Int32.toInt x2)) (n := 0) rfl (by decide) c9
    refine Ex.cb (sX12_isWhat fu hfu p3 1 g3 L4 hI hJ) (fun x10 g11 L12 hq14 => ?_)
    obtain ⟨hI, hJ, kk0, kk1, rb_, ip0⟩ := hq14
    have b15 : 0 ≤ (Int32.toInt x10) ∧ (Int32.toInt x10) ≤ 1 := rb_
    have ip16 : (Int32.toInt x10) = 1 → 0 ≤ (Int32.toInt p3) ∧ (Int32.toInt p3) ≤ 1 := ip0
    have hI : zI MT g11 := hI
    have hJ : mJ g11 := hJ
    have k0_0 : g11 0 18 = g0 0 18 := kk0.trans k0_0
    have k0_1 : g11 0 2 = g0 0 2 := kk1.trans k0_1
    refine Ex.ite (fun c17 => ?_) (fun c17 => ?_)
    ·
      have c17 := icc_eq (m := (Int32.toInt x10)) (n := 0) rfl (by decide) c17
      exact J38 g11 L12 hI hJ k0_0 k0_1
    ·
      have c17 := icc_neq (m := (Int32.toInt x10)) (n := 0) rfl (by decide) c17
      refine Ex.cb (sX12_within fu hfu p2 0 999 g11 L12 hI hJ) (fun x18 g19 L20 hq22 => ?_)
      obtain ⟨hI, hJ, kk0, kk1, kk2, kk3, kk4, rb_, ip0⟩ := hq22
      have b23 : 0 ≤ (Int32.toInt x18) ∧ (Int32.toInt x18) ≤ 1 := rb_
      have ip24 : (Int32.toInt x18) = 1 → 0 ≤ (Int32.toInt p2) ∧ (Int32.toInt p2) ≤ 999 := ip0
      have hI : zI MT g19 := hI
      have hJ : mJ g19 := hJ
      have k0_0 : g19 0 18 = g0 0 18 := kk3.trans k0_0
      have k0_1 : g19 0 2 = g0 0 2 := kk4.trans k0_1
      refine Ex.cb (sX12_right fu hfu x18 2 g19 L20 hI hJ (by omega) (by decide)) (fun x25 g26 L27 hq29 => ?_)
      obtain ⟨hI, hJ, kk0, kk1, rb_, ip0⟩ := hq29
      have b30 : 0 ≤ (Int32.toInt x25) ∧ (Int32.toInt x25) ≤ 1 := rb_
      have ip31 : (Int32.toInt x25) = 1 → 1 ≤ (Int32.toInt x18) ∧ (Int32.toInt x18) ≤ 1 := ip0
      have hI : zI MT g26 := hI
      have hJ : mJ g26 := hJ
      have k0_0 : g26 0 18 = g0 0 18 := kk0.trans k0_0
      have k0_1 : g26 0 2 = g0 0 2 := kk1.trans k0_1
      refine Ex.ite (fun c32 => ?_) (fun c32 => ?_)
      ·
        have c32 := icc_eq (m := (Int32.toInt x25)) (n := 0) rfl (by decide) c32
        exact J38 g26 L27 hI hJ k0_0 k0_1
      ·
        have c32 := icc_neq (m := (Int32.toInt x25)) (n := 0) rfl (by decide) c32
        refine Ex.cb (sX12_asks fu hfu g26 L27 hI hJ) (fun x33 g34 L35 hq37 => ?_)
        obtain ⟨hI, hJ, kk0, kk1⟩ := hq37
        have hI : zI MT g34 := hI
        have hJ : mJ g34 := hJ
        have k0_0 : g34 0 18 = g0 0 18 := kk0.trans k0_0
        have k0_1 : g34 0 2 = g0 0 2 := kk1.trans k0_1
        refine Ex.cb (sX12_weighs fu hfu p1 p2 g34 L35 hI hJ (by omega)) (fun x38 g39 L40 hq42 => ?_)
        obtain ⟨hI, hJ, kk0, kk1⟩ := hq42
        have hI : zI MT g39 := hI
        have hJ : mJ g39 := hJ
        have k0_0 : g39 0 18 = g0 0 18 := kk0.trans k0_0
        have k0_1 : g39 0 2 = g0 0 2 := kk1.trans k0_1
        refine Ex.cb (sX12_tens fu hfu g39 L40 hI hJ) (fun x43 g44 L45 hq47 => ?_)
        obtain ⟨hI, hJ, kk0, kk1, lp0_⟩ := hq47
        have lp48 : ¬ x43 = 0 := lp0_
        have hI : zI MT g44 := hI
        have hJ : mJ g44 := hJ
        have k0_0 : g44 0 18 = g0 0 18 := kk0.trans k0_0
        have k0_1 : g44 0 2 = g0 0 2 := kk1.trans k0_1
        refine Ex.cb (sX12_portion fu hfu x38 x43 p3 g44 L45 hI hJ (by assumption)) (fun x49 g50 L51 hq53 => ?_)
        obtain ⟨hI, hJ, kk0, kk1⟩ := hq53
        have hI : zI MT g50 := hI
        have hJ : mJ g50 := hJ
        have k0_0 : g50 0 18 = g0 0 18 := kk0.trans k0_0
        have k0_1 : g50 0 2 = g0 0 2 := kk1.trans k0_1
        exact Ex.ret ⟨hI, hJ, k0_0, k0_1⟩
set_option maxHeartbeats 4000000 in
set_option maxRecDepth 100000 in
theorem sX12_mean (fu : Nat) (hfu : 1180591620717411303424 ≤ fu) (p1 : Int32) (p2 : Int32) (g0 : Nat → Nat → Int32) (L0 : Nat → Nat → Int64) (hI : zI MT g0) (hJ : mJ g0) : Ex (fX12_mean fu p1 p2 g0 L0) (fun (r : Int64) (g1 : Nat → Nat → Int32) (L1 : Nat → Nat → Int64) => zI MT g1 ∧ mJ g1 ∧ g1 0 18 = g0 0 18 ∧ g1 0 2 = g0 0 2) := by
  have k0_0 : g0 0 18 = g0 0 18 := rfl
  have k0_1 : g0 0 2 = g0 0 2 := rfl
  unfold fX12_mean
  refine Ex.sti (hI.updN rfl) (fun g1 g1e hI => ?_)
  have k0_0 : g1 0 18 = g0 0 18 := by rw [g1e]; exact k0_0
  have k0_1 : g1 0 2 = g0 0 2 := by rw [g1e]; exact k0_1
  have hJ : mJ g1 := by rw [g1e]; exact mJ.upd hJ rfl
  refine Ex.cb (sX12_isLesson fu hfu p1 g1 L0 hI hJ) (fun x2 g3 L4 hq6 => ?_)
  obtain ⟨hI, hJ, kk0, kk1, rb_, ip0⟩ := hq6
  have b7 : 0 ≤ (Int32.toInt x2) ∧ (Int32.toInt x2) ≤ 1 := rb_
  have ip8 : (Int32.toInt x2) = 1 → 0 ≤ (Int32.toInt p1) ∧ (Int32.toInt p1) ≤ 11 := ip0
  have hI : zI MT g3 := hI
  have hJ : mJ g3 := hJ
  have k0_0 : g3 0 18 = g0 0 18 := kk0.trans k0_0
  have k0_1 : g3 0 2 = g0 0 2 := kk1.trans k0_1
  have J22 : ∀ (g : Nat → Nat → Int32) (L : Nat → Nat → Int64), zI MT g → mJ g → g 0 18 = g0 0 18 → g 0 2 = g0 0 2 → Ex (fX12_mean_p22 fu g L) (fun (r : Int64) (g1 : Nat → Nat → Int32) (L1 : Nat → Nat → Int64) => zI MT g1 ∧ mJ g1 ∧ g1 0 18 = g0 0 18 ∧ g1 0 2 = g0 0 2) := by
    intro g L hI hJ k0_0 k0_1
    unfold fX12_mean_p22
    exact Ex.ret ⟨hI, hJ, k0_0, k0_1⟩
  refine Ex.ite (fun c9 => ?_) (fun c9 => ?_)
  ·
    have c9 := icc_eq (m := (Int32.toInt x2)) (n := 0) rfl (by decide) c9
    exact J22 g3 L4 hI hJ k0_0 k0_1
  ·
    have c9 := icc_neq (m := (Int32.toInt x2)) (n := 0) rfl (by decide) c9
    refine Ex.cb (sX12_isWhat fu hfu p2 1 g3 L4 hI hJ) (fun x10 g11 L12 hq14 => ?_)
    obtain ⟨hI, hJ, kk0, kk1, rb_, ip0⟩ := hq14
    have b15 : 0 ≤ (Int32.toInt x10) ∧ (Int32.toInt x10) ≤ 1 := rb_
    have ip16 : (Int32.toInt x10) = 1 → 0 ≤ (Int32.toInt p2) ∧ (Int32.toInt p2) ≤ 1 := ip0
    have hI : zI MT g11 := hI
    have hJ : mJ g11 := hJ
    have k0_0 : g11 0 18 = g0 0 18 := kk0.trans k0_0
    have k0_1 : g11 0 2 = g0 0 2 := kk1.trans k0_1
    refine Ex.ite (fun c17 => ?_) (fun c17 => ?_)
    ·
      have c17 := icc_eq (m := (Int32.toInt x10)) (n := 0) rfl (by decide) c17
      exact J22 g11 L12 hI hJ k0_0 k0_1
    ·
      have c17 := icc_neq (m := (Int32.toInt x10)) (n := 0) rfl (by decide) c17
      refine Ex.cb (sX12_asks fu hfu g11 L12 hI hJ) (fun x18 g19 L20 hq22 => ?_)
      obtain ⟨hI, hJ, kk0, kk1⟩ := hq22
      have hI : zI MT g19 := hI
      have hJ : mJ g19 := hJ
      have k0_0 : g19 0 18 = g0 0 18 := kk0.trans k0_0
      have k0_1 : g19 0 2 = g0 0 2 := kk1.trans k0_1
      refine Ex.cb (sX12_weighs fu hfu p1 (-1) g19 L20 hI hJ (by omega)) (fun x23 g24 L25 hq27 => ?_)
      obtain ⟨hI, hJ, kk0, kk1⟩ := hq27
      have hI : zI MT g24 := hI
      have hJ : mJ g24 := hJ
      have k0_0 : g24 0 18 = g0 0 18 := kk0.trans k0_0
      have k0_1 : g24 0 2 = g0 0 2 := kk1.trans k0_1
      refine Ex.cb (sX12_tens fu hfu g24 L25 hI hJ) (fun x28 g29 L30 hq32 => ?_)
      obtain ⟨hI, hJ, kk0, kk1, lp0_⟩ := hq32
      have lp33 : ¬ x28 = 0 := lp0_
      have hI : zI MT g29 := hI
      have hJ : mJ g29 := hJ
      have k0_0 : g29 0 18 = g0 0 18 := kk0.trans k0_0
      have k0_1 : g29 0 2 = g0 0 2 := kk1.trans k0_1
      refine Ex.cb (sX12_portion fu hfu x23 x28 p2 g29 L30 hI hJ (by assumption)) (fun x34 g35 L36 hq38 => ?_)
      obtain ⟨hI, hJ, kk0, kk1⟩ := hq38
      have hI : zI MT g35 := hI
      have hJ : mJ g35 := hJ
      have k0_0 : g35 0 18 = g0 0 18 := kk0.trans k0_0
      have k0_1 : g35 0 2 = g0 0 2 := kk1.trans k0_1
      exact Ex.ret ⟨hI, hJ, k0_0, k0_1⟩
set_option maxHeartbeats 4000000 in
set_option maxRecDepth 100000 in
theorem sX12_become (fu : Nat) (hfu : 1180591620717411303424 ≤ fu) (p1 : Int32) (p2 : Int32) (p3 : Int32) (g0 : Nat → Nat → Int32) (L0 : Nat → Nat → Int64) (hI : zI MT g0) (hJ : mJ g0) : Ex (fX12_become fu p1 p2 p3 g0 L0) (fun (r : Int32) (g1 : Nat → Nat → Int32) (L1 : Nat → Nat → Int64) => zI MT g1 ∧ mJ g1 ∧ g1 0 18 = g0 0 18 ∧ g1 0 2 = g0 0 2) := by
  have k0_0 : g0 0 18 = g0 0 18 := rfl
  have k0_1 : g0 0 2 = g0 0 2 := rfl
  unfold fX12_become
  refine Ex.sti (hI.updN rfl) (fun g1 g1e hI => ?_)
  have k0_0 : g1 0 18 = g0 0 18 := by rw [g1e]; exact k0_0
  have k0_1 : g1 0 2 = g0 0 2 := by rw [g1e]; exact k0_1
  have hJ : mJ g1 := by rw [g1e]; exact mJ.upd hJ rfl
  refine Ex.cb (sX12_isLesson fu hfu p1 g1 L0 hI hJ) (fun x2 g3 L4 hq6 => ?_)
  obtain ⟨hI, hJ, kk0, kk1, rb_, ip0⟩ := hq6
  have b7 : 0 ≤ (Int32.toInt x2) ∧ (Int32.toInt x2) ≤ 1 := rb_
  have ip8 : (Int32.toInt x2) = 1 → 0 ≤ (Int32.toInt p1) ∧ (Int32.toInt p1) ≤ 11 := ip0
  have hI : zI MT g3 := hI
  have hJ : mJ g3 := hJ
  have k0_0 : g3 0 18 = g0 0 18 := kk0.trans k0_0
  have k0_1 : g3 0 2 = g0 0 2 := kk1.trans k0_1
  have J22 : ∀ (g : Nat → Nat → Int32) (L : Nat → Nat → Int64), zI MT g → mJ g → g 0 18 = g0 0 18 → g 0 2 = g0 0 2 → Ex (fX12_become_p22 fu g L) (fun (r : Int32) (g1 : Nat → Nat → Int32) (L1 : Nat → Nat → Int64) => zI MT g1 ∧ mJ g1 ∧ g1 0 18 = g0 0 18 ∧ g1 0 2 = g0 0 2) := by
    intro g L hI hJ k0_0 k0_1
    unfold fX12_become_p22
    exact Ex.ret ⟨hI, hJ, k0_0, k0_1⟩
  refine Ex.ite (fun c9 => ?_) (fun c9 => ?_)
  ·
    have c9 := icc_eq (m := (Int32.toInt x2)) (n := 0) rfl (by decide) c9
    exact J22 g3 L4 hI hJ k0_0 k0_1
  ·
    have c9 := icc_neq (m := (Int32.toInt x2)) (n := 0) rfl (by decide) c9
    refine Ex.cb (sX12_isWhat fu hfu p2 3 g3 L4 hI hJ) (fun x10 g11 L12 hq14 => ?_)
    obtain ⟨hI, hJ, kk0, kk1, rb_, ip0⟩ := hq14
    have b15 : 0 ≤ (Int32.toInt x10) ∧ (Int32.toInt x10) ≤ 1 := rb_
    have ip16 : (Int32.toInt x10) = 1 → 0 ≤ (Int32.toInt p2) ∧ (Int32.toInt p2) ≤ 3 := ip0
    have hI : zI MT g11 := hI
    have hJ : mJ g11 := hJ
    have k0_0 : g11 0 18 = g0 0 18 := kk0.trans k0_0
    have k0_1 : g11 0 2 = g0 0 2 := kk1.trans k0_1
    refine Ex.ite (fun c17 => ?_) (fun c17 => ?_)
    ·
      have c17 := icc_eq (m := (Int32.toInt x10)) (n := 0) rfl (by decide) c17
      exact J22 g11 L12 hI hJ k0_0 k0_1
    ·
      have c17 := icc_neq (m := (Int32.toInt x10)) (n := 0) rfl (by decide) c17
      have J57 : ∀ (v1 : Int32) (v2 : Int32) (v3 : Int32) (t0 : Int32) (t1 : Int32) (t2 : Int32) (g : Nat → Nat → Int32) (L : Nat → Nat → Int64), (0 ≤ (Int32.toInt v1) ∧ (Int32.toInt v1) ≤ 11) → (0 ≤ (Int32.toInt v2) ∧ (Int32.toInt v2) ≤ 3) → (9 ≤ (Int32.toInt t0) ∧ (Int32.toInt t0) ≤ 99) → (0 ≤ (Int32.toInt t1) ∧ (Int32.toInt t1) ≤ 0) → zI MT g → mJ g → g 0 18 = g0 0 18 → g 0 2 = g0 0 2 → Ex (fX12_become_p57 fu v1 v2 v3 t0 t1 t2 g L) (fun (r : Int32) (g1 : Nat → Nat → Int32) (L1 : Nat → Nat → Int64) => zI MT g1 ∧ mJ g1 ∧ g1 0 18 = g0 0 18 ∧ g1 0 2 = g0 0 2) := by
        intro v1 v2 v3 t0 t1 t2 g L hb_v1 hb_v2 hb_t0 hb_t1 hI hJ k0_0 k0_1
        unfold fX12_become_p57
        refine Ex.cb (sX12_within fu hfu t2 t1 t0 g L hI hJ) (fun x18 g19 L20 hq22 => ?_)
        obtain ⟨hI, hJ, kk0, kk1, kk2, kk3, kk4, rb_, ip0⟩ := hq22
        have b23 : 0 ≤ (Int32.toInt x18) ∧ (Int32.toInt x18) ≤ 1 := rb_
        have ip24 : (Int32.toInt x18) = 1 → (Int32.toInt t1) ≤ (Int32.toInt t2) ∧ (Int32.toInt t2) ≤ (Int32.toInt t0) := ip0
        have hI : zI MT g19 := hI
        have hJ : mJ g19 := hJ
        have k0_0 : g19 0 18 = g0 0 18 := kk3.trans k0_0
        have k0_1 : g19 0 2 = g0 0 2 := kk4.trans k0_1
        refine Ex.ite (fun c25 => ?_) (fun c25 => ?_)
        ·
          have c25 := icc_eq (m := (Int32.toInt x18)) (n := 0) rfl (by decide) c25
          refine Ex.cb (sX12_refuses fu hfu 1 g19 L20 hI hJ (by decide)) (fun x26 g27 L28 hq30 => ?_)
          obtain ⟨hI, hJ, kk0, kk1, rb_⟩ := hq30
          have b31 : (-1) ≤ (Int32.toInt x26) ∧ (Int32.toInt x26) ≤ (-1) := rb_
          have hI : zI MT g27 := hI
          have hJ : mJ g27 := hJ
          have k0_0 : g27 0 18 = g0 0 18 := kk0.trans k0_0
          have k0_1 : g27 0 2 = g0 0 2 := kk1.trans k0_1
          exact Ex.ret ⟨hI, hJ, k0_0, k0_1⟩
        ·
          have c25 := icc_neq (m := (Int32.toInt x18)) (n := 0) rfl (by decide) c25
          generalize z32q : (12 * v2) = z32
          have e33 : (Int32.toInt z32) = 12 * (Int32.toInt v2) := by rw [← z32q]; exact ic_mulc (by decide) rfl (by omega) (by omega)
          generalize z34q : (z32 + v1) = z34
          have e35 : (Int32.toInt z34) = (Int32.toInt z32) + (Int32.toInt v1) := by rw [← z34q]; exact ic_addc rfl rfl (by omega) (by omega)
          refine Ex.lti (fun x36 x36e x36i => ?_)
          refine Ex.ck (by omega) (by omega) ?_
          refine Ex.lti (fun x37 x37e x37i => ?_)
          refine Ex.cb (sX12_keeps fu hfu x36 x37 g19 L20 hI hJ (by first | omega | decide) (by intro _; omega)) (fun x38 g39 L40 hq42 => ?_)
          obtain ⟨hI, hJ, kk0, kk1⟩ := hq42
          have hI : zI MT g39 := hI
          have hJ : mJ g39 := hJ
          have k0_0 : g39 0 18 = g0 0 18 := kk0.trans k0_0
          have k0_1 : g39 0 2 = g0 0 2 := kk1.trans k0_1
          refine Ex.ck (by omega) (by omega) ?_
          refine Ex.sti (hI.updN rfl) (fun g43 g43e hI => ?_)
          have k0_0 : g43 0 18 = g0 0 18 := by rw [g43e]; exact k0_0
          have k0_1 : g43 0 2 = g0 0 2 := by rw [g43e]; exact k0_1
          have hJ : mJ g43 := by rw [g43e]; exact mJ.upd hJ rfl
          exact Ex.ret ⟨hI, hJ, k0_0, k0_1⟩
      refine Ex.ite (fun c44 => ?_) (fun c44 => ?_)
      ·
        have c44 := icc_eq (m := (Int32.toInt p2)) (n := 0) rfl (by decide) c44
        exact J57 p1 p2 p3 60 0 p3 g11 L12 (by omega) (by omega) (by decide) (by decide) hI hJ k0_0 k0_1
      ·
        have c44 := icc_neq (m := (Int32.toInt p2)) (n := 0) rfl (by decide) c44
        refine Ex.ite (fun c45 => ?_) (fun c45 => ?_)
        ·
          have c45 := icc_eq (m := (Int32.toInt p2)) (n := 1) rfl (by decide) c45
          exact J57 p1 p2 p3 30 0 p3 g11 L12 (by omega) (by omega) (by decide) (by decide) hI hJ k0_0 k0_1
        ·
          have c45 := icc_neq (m := (Int32.toInt p2)) (n := 1) rfl (by decide) c45
          refine Ex.ite (fun c46 => ?_) (fun c46 => ?_)
          ·
            have c46 := icc_eq (m := (Int32.toInt p2)) (n := 2) rfl (by decide) c46
            exact J57 p1 p2 p3 9 0 p3 g11 L12 (by omega) (by omega) (by decide) (by decide) hI hJ k0_0 k0_1
          ·
            have c46 := icc_neq (m := (Int32.toInt p2)) (n := 2) rfl (by decide) c46
            exact J57 p1 p2 p3 99 0 p3 g11 L12 (by omega) (by omega) (by decide) (by decide) hI hJ k0_0 k0_1
set_option maxHeartbeats 4000000 in
set_option maxRecDepth 100000 in
theorem sX12_obey (fu : Nat) (hfu : 1180591620717411303424 ≤ fu) (p1 : Int32) (g0 : Nat → Nat → Int32) (L0 : Nat → Nat → Int64) (hI : zI MT g0) (hJ : mJ g0) : Ex (fX12_obey fu p1 g0 L0) (fun (r : Int32) (g1 : Nat → Nat → Int32) (L1 : Nat → Nat → Int64) => zI MT g1 ∧ mJ g1 ∧ g1 0 18 = g0 0 18 ∧ g1 0 2 = g0 0 2 ∧ (0 ≤ (Int32.toInt r) ∧ (Int32.toInt r) ≤ 1)) := by
  have k0_0 : g0 0 18 = g0 0 18 := rfl
  have k0_1 : g0 0 2 = g0 0 2 := rfl
  have w1_0 := hI 0 2 0 4 rfl
  unfold fX12_obey
  refine Ex.sti (hI.updN rfl) (fun g1 g1e hI => ?_)
  have w2 : (Int32.toInt (g1 0 2)) = (Int32.toInt (g0 0 2)) := by rw [g1e]; rfl
  have k0_0 : g1 0 18 = g0 0 18 := by rw [g1e]; exact k0_0
  have k0_1 : g1 0 2 = g0 0 2 := by rw [g1e]; exact k0_1
  have hJ : mJ g1 := by rw [g1e]; exact mJ.upd hJ rfl
  have J18 : ∀ (g : Nat → Nat → Int32) (L : Nat → Nat → Int64), (0 ≤ (Int32.toInt (g 0 2)) ∧ (Int32.toInt (g 0 2)) ≤ 4) → zI MT g → mJ g → g 0 18 = g0 0 18 → g 0 2 = g0 0 2 → Ex (fX12_obey_p18 fu g L) (fun (r : Int32) (g1 : Nat → Nat → Int32) (L1 : Nat → Nat → Int64) => zI MT g1 ∧ mJ g1 ∧ g1 0 18 = g0 0 18 ∧ g1 0 2 = g0 0 2 ∧ (0 ≤ (Int32.toInt r) ∧ (Int32.toInt r) ≤ 1)) := by
    intro g L hw_0_2 hI hJ k0_0 k0_1
    unfold fX12_obey_p18
    refine Ex.cb (sX12_refuses fu hfu 1 g L hI hJ (by decide)) (fun x3 g4 L5 hq7 => ?_)
    obtain ⟨hI, hJ, kk0, kk1, rb_⟩ := hq7
    have b8 : (-1) ≤ (Int32.toInt x3) ∧ (Int32.toInt x3) ≤ (-1) := rb_
    have hI : zI MT g4 := hI
    have hJ : mJ g4 := hJ
    have w9 : (Int32.toInt (g4 0 2)) = (Int32.toInt (g 0 2)) := congrArg Int32.toInt kk1
    have k0_0 : g4 0 18 = g0 0 18 := kk0.trans k0_0
    have k0_1 : g4 0 2 = g0 0 2 := kk1.trans k0_1
    have J31 : ∀ (t0 : Int32) (g : Nat → Nat → Int32) (L : Nat → Nat → Int64), (0 ≤ (Int32.toInt t0) ∧ (Int32.toInt t0) ≤ 0) → (0 ≤ (Int32.toInt (g 0 2)) ∧ (Int32.toInt (g 0 2)) ≤ 4) → zI MT g → mJ g → g 0 18 = g0 0 18 → g 0 2 = g0 0 2 → Ex (fX12_obey_p31 fu t0 g L) (fun (r : Int32) (g1 : Nat → Nat → Int32) (L1 : Nat → Nat → Int64) => zI MT g1 ∧ mJ g1 ∧ g1 0 18 = g0 0 18 ∧ g1 0 2 = g0 0 2 ∧ (0 ≤ (Int32.toInt r) ∧ (Int32.toInt r) ≤ 1)) := by
      intro t0 g L hb_t0 hw_0_2 hI hJ k0_0 k0_1
      unfold fX12_obey_p31
      refine Ex.ckb (z_bool (by omega)) ?_
      exact Ex.ret ⟨hI, hJ, k0_0, k0_1, (by omega)⟩
    refine Ex.ite (fun c10 => ?_) (fun c10 => ?_)
    ·
      have c10 := icc_le (m := (Int32.toInt x3)) (n := 0) rfl (by decide) c10
      exact J31 0 g4 L5 (by decide) (by omega) hI hJ k0_0 k0_1
    ·
      have c10 := icc_nle (m := (Int32.toInt x3)) (n := 0) rfl (by decide) c10
      omega
  refine Ex.ite (fun c11 => ?_) (fun c11 => ?_)
  ·
    have c11 := icc_lt (m := (Int32.toInt p1)) (n := (-1)) rfl (by decide) c11
    exact J18 g1 L0 (by omega) hI hJ k0_0 k0_1
  ·
    have c11 := icc_nlt (m := (Int32.toInt p1)) (n := (-1)) rfl (by decide) c11
    have b12 : 0 ≤ (Int32.toInt (g1 0 2)) ∧ (Int32.toInt (g1 0 2)) ≤ 4 := hI 0 2 0 4 rfl
    refine Ex.ite (fun c13 => ?_) (fun c13 => ?_)
    ·
      have c13 := icc_lt (m := (Int32.toInt p1)) (n := (Int32.toInt (g1 0 2))) rfl rfl c13
      have b14 : (-1) ≤ (Int32.toInt (g1 0 52)) ∧ (Int32.toInt (g1 0 52)) ≤ 3 := hI 0 52 (-1) 3 rfl
      have hm_ := hJ.2.1
      refine Ex.cb (sX12_keeps fu hfu 48 (g1 0 52) g1 L0 hI hJ (by first | omega | decide) (by intro _; omega)) (fun x15 g16 L17 hq19 => ?_)
      obtain ⟨hI, hJ, kk0, kk1⟩ := hq19
      have hI : zI MT g16 := hI
      have hJ : mJ g16 := hJ
      have w20 : (Int32.toInt (g16 0 2)) = (Int32.toInt (g1 0 2)) := congrArg Int32.toInt kk1
      have k0_0 : g16 0 18 = g0 0 18 := kk0.trans k0_0
      have k0_1 : g16 0 2 = g0 0 2 := kk1.trans k0_1
      refine Ex.sti (hI.upd rfl (by omega) (by omega)) (fun g21 g21e hI => ?_)
      have w22 : (Int32.toInt (g21 0 2)) = (Int32.toInt (g16 0 2)) := by rw [g21e]; rfl
      have k0_0 : g21 0 18 = g0 0 18 := by rw [g21e]; exact k0_0
      have k0_1 : g21 0 2 = g0 0 2 := by rw [g21e]; exact k0_1
      have hJ : mJ g21 := by rw [g21e]; exact mJ.force hJ (by omega)
      refine Ex.ckb rfl ?_
      exact Ex.ret ⟨hI, hJ, k0_0, k0_1, (by decide)⟩
    ·
      have c13 := icc_nlt (m := (Int32.toInt p1)) (n := (Int32.toInt (g1 0 2))) rfl rfl c13
      exact J18 g1 L0 (by omega) hI hJ k0_0 k0_1
set_option maxHeartbeats 4000000 in
set_option maxRecDepth 100000 in
theorem sX12_chain (fu : Nat) (hfu : 1180591620717411303424 ≤ fu) (p1 : Int32) (p2 : Int32) (g0 : Nat → Nat → Int32) (L0 : Nat → Nat → Int64) (hI : zI MT g0) (hJ : mJ g0) : Ex (fX12_chain fu p1 p2 g0 L0) (fun (r : Int32) (g1 : Nat → Nat → Int32) (L1 : Nat → Nat → Int64) => zI MT g1 ∧ mJ g1 ∧ g1 0 18 = g0 0 18 ∧ g1 0 2 = g0 0 2 ∧ ((-1) ≤ (Int32.toInt r) ∧ (Int32.toInt r) ≤ 11)) := by
  have k0_0 : g0 0 18 = g0 0 18 := rfl
  have k0_1 : g0 0 2 = g0 0 2 := rfl
  unfold fX12_chain
  refine Ex.sti (hI.updN rfl) (fun g1 g1e hI => ?_)
  have k0_0 : g1 0 18 = g0 0 18 := by rw [g1e]; exact k0_0
  have k0_1 : g1 0 2 = g0 0 2 := by rw [g1e]; exact k0_1
  have hJ : mJ g1 := by rw [g1e]; exact mJ.upd hJ rfl
  refine Ex.cb (sX12_isLesson fu hfu p1 g1 L0 hI hJ) (fun x2 g3 L4 hq6 => ?_)
  obtain ⟨hI, hJ, kk0, kk1, rb_, ip0⟩ := hq6
  have b7 : 0 ≤ (Int32.toInt x2) ∧ (Int32.toInt x2) ≤ 1 := rb_
  have ip8 : (Int32.toInt x2) = 1 → 0 ≤ (Int32.toInt p1) ∧ (Int32.toInt p1) ≤ 11 := ip0
  have hI : zI MT g3 := hI
  have hJ : mJ g3 := hJ
  have k0_0 : g3 0 18 = g0 0 18 := kk0.trans k0_0
  have k0_1 : g3 0 2 = g0 0 2 := kk1.trans k0_1
  have J30 : ∀ (g : Nat → Nat → Int32) (L : Nat → Nat → Int64), zI MT g → mJ g → g 0 18 = g0 0 18 → g 0 2 = g0 0 2 → Ex (fX12_chain_p30 fu g L) (fun (r : Int32) (g1 : Nat → Nat → Int32) (L1 : Nat → Nat → Int64) => zI MT g1 ∧ mJ g1 ∧ g1 0 18 = g0 0 18 ∧ g1 0 2 = g0 0 2 ∧ ((-1) ≤ (Int32.toInt r) ∧ (Int32.toInt r) ≤ 11)) := by
    intro g L hI hJ k0_0 k0_1
    unfold fX12_chain_p30
    exact Ex.ret ⟨hI, hJ, k0_0, k0_1, (by decide)⟩
  refine Ex.ite (fun c9 => ?_) (fun c9 => ?_)
  ·
    have rg10 := ic_rg x2
    have c9 := icc_eq (m := (Int32.toInt x2)) (n := 0) rfl (by decide) c9
    exact J30 g3 L4 hI hJ k0_0 k0_1
  ·
    have rg11 := ic_rg x2
    have c9 := icc_neq (m := (Int32.toInt x2)) (n := 0) rfl (by decide) c9
    have J23 : ∀ (v1 : Int32) (v2 : Int32) (t0 : Int32) (g : Nat → Nat → Int32) (L : Nat → Nat → Int64), (0 ≤ (Int32.toInt v1) ∧ (Int32.toInt v1) ≤ 11) → (0 ≤ (Int32.toInt t0) ∧ (Int32.toInt t0) ≤ 1) → zI MT g → mJ g → g 0 18 = g0 0 18 → g 0 2 = g0 0 2 → Ex (fX12_chain_p23 fu v1 v2 t0 g L) (fun (r : Int32) (g1 : Nat → Nat → Int32) (L1 : Nat → Nat → Int64) => zI MT g1 ∧ mJ g1 ∧ g1 0 18 = g0 0 18 ∧ g1 0 2 = g0 0 2 ∧ ((-1) ≤ (Int32.toInt r) ∧ (Int32.toInt r) ≤ 11)) := by
      intro v1 v2 t0 g L hb_v1 hb_t0 hI hJ k0_0 k0_1
      unfold fX12_chain_p23
      refine Ex.cb (sX12_right fu hfu t0 1 g L hI hJ (by omega) (by decide)) (fun x12 g13 L14 hq16 => ?_)
      obtain ⟨hI, hJ, kk0, kk1, rb_, ip0⟩ := hq16
      have b17 : 0 ≤ (Int32.toInt x12) ∧ (Int32.toInt x12) ≤ 1 := rb_
      have ip18 : (Int32.toInt x12) = 1 → 1 ≤ (Int32.toInt t0) ∧ (Int32.toInt t0) ≤ 1 := ip0
      have hI : zI MT g13 := hI
      have hJ : mJ g13 := hJ
      have k0_0 : g13 0 18 = g0 0 18 := kk0.trans k0_0
      have k0_1 : g13 0 2 = g0 0 2 := kk1.trans k0_1
      refine Ex.ite (fun c19 => ?_) (fun c19 => ?_)
      ·
        have rg20 := ic_rg x12
        have c19 := icc_eq (m := (Int32.toInt x12)) (n := 0) rfl (by decide) c19
        exact J30 g13 L14 hI hJ k0_0 k0_1
      ·
        have rg21 := ic_rg x12
        have c19 := icc_neq (m := (Int32.toInt x12)) (n := 0) rfl (by decide) c19
        refine Ex.cb (sX12_works0 fu hfu g13 L14 hI hJ) (fun x22 g23 L24 hq26 => ?_)
        obtain ⟨hI, hJ, kk0, kk1⟩ := hq26
        have hI : zI MT g23 := hI
        have hJ : mJ g23 := hJ
        have k0_0 : g23 0 18 = g0 0 18 := kk0.trans k0_0
        have k0_1 : g23 0 2 = g0 0 2 := kk1.trans k0_1
        have lp41 : ∀ (v2 : Int32) (v3 : Int32) (v4 : Int32) (g : Nat → Nat → Int32) (L : Nat → Nat → Int64), ((-1) ≤ (Int32.toInt v3) ∧ (Int32.toInt v3) ≤ 11) → (0 ≤ (Int32.toInt v4)) → zI MT g → mJ g → g 0 18 = g0 0 18 → g 0 2 = g0 0 2 → Ex (fX12_chain_l41 fu v2 v3 v4 g L) (fun (r : Int32) (g1 : Nat → Nat → Int32) (L1 : Nat → Nat → Int64) => zI MT g1 ∧ mJ g1 ∧ g1 0 18 = g0 0 18 ∧ g1 0 2 = g0 0 2 ∧ ((-1) ≤ (Int32.toInt r) ∧ (Int32.toInt r) ≤ 11)) := by
          intro v2 v3 v4 g L hb_v3 hb_v4 hI hJ k0_0 k0_1
          unfold fX12_chain_l41
          have rg27 := ic_rg v2
          have rg28 := ic_rg v3
          have rg29 := ic_rg v4
          refine Ex.loop (fun v => (((-1) ≤ (Int32.toInt (v.1)) ∧ (Int32.toInt (v.1)) ≤ 11)) ∧ ((0 ≤ (Int32.toInt (v.2.1)))) ∧ (zI MT (v.2.2.1)) ∧ (mJ (v.2.2.1)) ∧ ((v.2.2.1) 0 18 = g0 0 18) ∧ ((v.2.2.1) 0 2 = g0 0 2)) (fun v => (Int32.toInt v2) - (Int32.toInt (v.2.1))) (by omega) (by show (Int32.toInt v2) - (Int32.toInt v4) < (fu : Int); omega) ⟨hb_v3, hb_v4, hI, hJ, k0_0, k0_1⟩ (fun k41 v hv ih41 => ?_)
          obtain ⟨v3, v4, g, L⟩ := v
          obtain ⟨hb_v3, hb_v4, hI, hJ, k0_0, k0_1⟩ := hv
          have hb_v3 : ((-1) ≤ (Int32.toInt v3) ∧ (Int32.toInt v3) ≤ 11) := hb_v3
          have hb_v4 : (0 ≤ (Int32.toInt v4)) := hb_v4
          have hI : zI MT g := hI
          have hJ : mJ g := hJ
          have k0_0 : g 0 18 = g0 0 18 := k0_0
          have k0_1 : g 0 2 = g0 0 2 := k0_1
          have ih41 : ∀ v' : Int32 × Int32 × (Nat → Nat → Int32) × (Nat → Nat → Int64), ((((-1) ≤ (Int32.toInt (v'.1)) ∧ (Int32.toInt (v'.1)) ≤ 11)) ∧ ((0 ≤ (Int32.toInt (v'.2.1)))) ∧ (zI MT (v'.2.2.1)) ∧ (mJ (v'.2.2.1)) ∧ ((v'.2.2.1) 0 18 = g0 0 18) ∧ ((v'.2.2.1) 0 2 = g0 0 2)) → (Int32.toInt v2) - (Int32.toInt (v'.2.1)) < (Int32.toInt v2) - (Int32.toInt v4) → 0 < (Int32.toInt v2) - (Int32.toInt v4) → Ex (k41 v') (fun (r : Int32) (g1 : Nat → Nat → Int32) (L1 : Nat → Nat → Int64) => zI MT g1 ∧ mJ g1 ∧ g1 0 18 = g0 0 18 ∧ g1 0 2 = g0 0 2 ∧ ((-1) ≤ (Int32.toInt r) ∧ (Int32.toInt r) ≤ 11)) := ih41
          show Ex (fX12_chain_s41 fu v2 k41 v3 v4 g L) (fun (r : Int32) (g1 : Nat → Nat → Int32) (L1 : Nat → Nat → Int64) => zI MT g1 ∧ mJ g1 ∧ g1 0 18 = g0 0 18 ∧ g1 0 2 = g0 0 2 ∧ ((-1) ≤ (Int32.toInt r) ∧ (Int32.toInt r) ≤ 11))
          unfold fX12_chain_s41
          have J65 : ∀ (v3 : Int32) (g : Nat → Nat → Int32) (L : Nat → Nat → Int64), ((-1) ≤ (Int32.toInt v3) ∧ (Int32.toInt v3) ≤ 11) → zI MT g → mJ g → g 0 18 = g0 0 18 → g 0 2 = g0 0 2 → Ex (fX12_chain_p65 fu v3 g L) (fun (r : Int32) (g1 : Nat → Nat → Int32) (L1 : Nat → Nat → Int64) => zI MT g1 ∧ mJ g1 ∧ g1 0 18 = g0 0 18 ∧ g1 0 2 = g0 0 2 ∧ ((-1) ≤ (Int32.toInt r) ∧ (Int32.toInt r) ≤ 11)) := by
            intro v3 g L hb_v3 hI hJ k0_0 k0_1
            unfold fX12_chain_p65
            exact Ex.ret ⟨hI, hJ, k0_0, k0_1, (by omega)⟩
          refine Ex.ite (fun c30 => ?_) (fun c30 => ?_)
          ·
            have rg31 := ic_rg v4
            have rg32 := ic_rg v2
            have c30 := icc_le (m := (Int32.toInt v2)) (n := (Int32.toInt v4)) rfl rfl c30
            exact J65 v3 g L (by omega) hI hJ k0_0 k0_1
          ·
            have rg33 := ic_rg v4
            have rg34 := ic_rg v2
            have c30 := icc_nle (m := (Int32.toInt v2)) (n := (Int32.toInt v4)) rfl rfl c30
            refine Ex.ite (fun c35 => ?_) (fun c35 => ?_)
            ·
              have rg36 := ic_rg v3
              have c35 := icc_eq (m := (Int32.toInt v3)) (n := (-1)) rfl (by decide) c35
              exact J65 v3 g L (by omega) hI hJ k0_0 k0_1
            ·
              have rg37 := ic_rg v3
              have c35 := icc_neq (m := (Int32.toInt v3)) (n := (-1)) rfl (by decide) c35
              refine Ex.ck (by omega) (by omega) ?_
              have b38 : (-1) ≤ (Int32.toInt (g 34 (Int32.toNatClampNeg v3))) ∧ (Int32.toInt (g 34 (Int32.toNatClampNeg v3))) ≤ 11 := hI 34 _ (-1) 11 rfl
              refine Ex.lti (fun x39 x39e x39i => ?_)
              generalize z40q : (v4 + 1) = z40
              have e41 : (Int32.toInt z40) = (Int32.toInt v4) + 1 := by rw [← z40q]; exact ic_addc rfl (by decide) (by omega) (by omega)
              exact ih41 (x39, z40, g, L) ⟨(show ((-1) ≤ (Int32.toInt x39) ∧ (Int32.toInt x39) ≤ 11) from by omega), (show (0 ≤ (Int32.toInt z40)) from by omega), hI, hJ, k0_0, k0_1⟩ (by show (Int32.toInt v2) - (Int32.toInt z40) < _; omega) (by omega)
        exact lp41 v2 v1 0 g23 L24 (by omega) (by decide) hI hJ k0_0 k0_1
    refine Ex.ite (fun c42 => ?_) (fun c42 => ?_)
    ·
      have rg43 := ic_rg p2
      have c42 := icc_lt (m := (Int32.toInt p2)) (n := 0) rfl (by decide) c42
      exact J23 p1 p2 0 g3 L4 (by omega) (by decide) hI hJ k0_0 k0_1
    ·
      have rg44 := ic_rg p2
      have c42 := icc_nlt (m := (Int32.toInt p2)) (n := 0) rfl (by decide) c42
      exact J23 p1 p2 1 g3 L4 (by omega) (by decide) hI hJ k0_0 k0_1
end
section
/-! ===== the reference: bits, copies, seeing, images ===== -/
def pb1 (s v : Int32) : Int := ((s >>> (v &&& 31)) &&& 1).toInt
def pbs (s : Int32) : Nat → Int
  | 0 => 0
  | k + 1 => pbs s k + pb1 s (Int32.ofNat k)
theorem pb1_rg (s v : Int32) : 0 ≤ pb1 s v ∧ pb1 s v ≤ 1 := ic_and1 _
theorem pbs_succ {s v : Int32} (h1 : 0 ≤ v.toInt) : pbs s (v.toNatClampNeg + 1) = pbs s v.toNatClampNeg + pb1 s v := by
  have e : Int32.ofNat v.toNatClampNeg = v := by
    apply Int32.toInt_inj.mp
    have hr := ic_rg v
    rw [nc, Int32.toInt_ofNat_of_lt (by omega)]
    omega
  show pbs s v.toNatClampNeg + pb1 s (Int32.ofNat v.toNatClampNeg) = _
  rw [e]
theorem pbs_mono (s : Int32) (k n : Nat) : pbs s k ≤ pbs s (k + n) := by
  induction n with
  | zero => exact Int.le_refl _
  | succ n ih => have := (pb1_rg s (Int32.ofNat (k + n))).1; show _ ≤ pbs s (k + n) + pb1 s (Int32.ofNat (k + n)); omega
theorem pbs_le {s : Int32} {k : Nat} (h : k ≤ 12) : pbs s k ≤ pbs s 12 := by
  have := pbs_mono s k (12 - k)
  rw [show k + (12 - k) = 12 by omega] at this
  exact this
theorem pbs_pos (s : Int32) (k : Nat) : 0 ≤ pbs s k := by
  have := pbs_mono s 0 k
  rw [Nat.zero_add] at this
  exact this
set_option maxHeartbeats 4000000 in
theorem tX12_bits (fu : Nat) (hfu : 1180591620717411303424 ≤ fu) (p1 : Int32) (g0 : Nat → Nat → Int32) (L0 : Nat → Nat → Int64) (hI : zI MT g0) (hJ : mJ g0) : Ex (fX12_bits fu p1 g0 L0) (fun (r : Int32) g1 L1 => zI MT g1 ∧ mJ g1 ∧ g1 0 18 = g0 0 18 ∧ g1 0 2 = g0 0 2 ∧ r.toInt = pbs p1 12) := by
  unfold fX12_bits fX12_bits_l4
  have e0 : (0 : Int32).toInt = 0 := by decide
  refine Ex.loop (α := Int32 × Int32 × (Nat → Nat → Int32) × (Nat → Nat → Int64)) (fun v => (0 ≤ v.2.1.toInt ∧ v.2.1.toInt ≤ 12) ∧ v.1.toInt = pbs p1 v.2.1.toNatClampNeg ∧ v.1.toInt ≤ v.2.1.toInt ∧ v.2.2.1 = g0) (fun v => 13 - v.2.1.toInt) (by omega) (by show 13 - (0 : Int32).toInt < (fu : Int); omega) ⟨(show 0 ≤ (0 : Int32).toInt ∧ (0 : Int32).toInt ≤ 12 from by omega), rfl, Int.le_refl _, rfl⟩ (fun k4 v hv ih => ?_)
  obtain ⟨v1, v2, g, L⟩ := v
  obtain ⟨hb, hp, hq, hg⟩ := hv
  have hb : 0 ≤ v2.toInt ∧ v2.toInt ≤ 12 := hb
  have hp : v1.toInt = pbs p1 v2.toNatClampNeg := hp
  have hq : v1.toInt ≤ v2.toInt := hq
  have hg : g = g0 := hg
  subst hg
  show Ex (fX12_bits_s4 fu p1 k4 v1 v2 g L) _
  unfold fX12_bits_s4
  refine Ex.ite (fun c => ?_) (fun c => ?_)
  · have c := icc_le (m := 12) (n := v2.toInt) (by decide) rfl c
    have n12 : v2.toNatClampNeg = 12 := by rw [nc]; omega
    rw [n12] at hp
    exact Ex.ret ⟨hI, hJ, rfl, rfl, hp⟩
  · have c := icc_nle (m := 12) (n := v2.toInt) (by decide) rfl c
    have hs := pbs_succ (s := p1) (v := v2) hb.1
    have h1 := pb1_rg p1 v2
    have h0 := pbs_pos p1 v2.toNatClampNeg
    refine Ex.lti (fun x xe _ => ?_)
    have ex : x.toInt = v1.toInt + pb1 p1 v2 := by rw [xe]; exact ic_add (by show -2147483648 ≤ v1.toInt + pb1 p1 v2; omega) (by show v1.toInt + pb1 p1 v2 ≤ 2147483647; omega)
    generalize hw : v2 + 1 = w
    have ew : w.toInt = v2.toInt + 1 := by rw [← hw]; exact ic_addc rfl (by decide) (by omega) (by omega)
    have nw : w.toNatClampNeg = v2.toNatClampNeg + 1 := by rw [nc, nc]; omega
    refine ih (x, w, g, L) ⟨(show 0 ≤ w.toInt ∧ w.toInt ≤ 12 from by omega), ?_, (show x.toInt ≤ w.toInt from by omega), rfl⟩ (by show 13 - w.toInt < 13 - v2.toInt; omega) (by show 0 < 13 - v2.toInt; omega)
    show x.toInt = pbs p1 w.toNatClampNeg
    rw [nw]; omega
/-- b's cell after a copy of a's -/
def cpd (g : Nat → Nat → Int32) (a b n : Nat) : Nat → Nat → Int32 := updA g b (fun j => if j < n then g a j else g b j)
theorem cpd_0 (g : Nat → Nat → Int32) (a b : Nat) : cpd g a b 0 = g := by
  funext k j
  unfold cpd updA
  split
  · rename_i h; subst h; simp
  · rfl
theorem cpd_s (g : Nat → Nat → Int32) {a b : Nat} (hab : a ≠ b) (n : Nat) : upd2 (cpd g a b n) b n (cpd g a b n a n) = cpd g a b (n + 1) := by
  have ea : cpd g a b n a n = g a n := by unfold cpd; rw [updA_ne hab]
  rw [ea]
  funext k j
  by_cases hk : k = b
  · subst hk
    by_cases hj : j = n
    · subst hj; rw [upd2_at]; unfold cpd; rw [updA_at, if_pos (by omega)]
    · rw [upd2_nj hj]; unfold cpd; rw [updA_at, updA_at]
      by_cases h : j < n
      · rw [if_pos h, if_pos (by omega)]
      · rw [if_neg h, if_neg (by omega)]
  · rw [upd2_nk hk]; unfold cpd; rw [updA_ne hk, updA_ne hk]
theorem cpd_ne {g : Nat → Nat → Int32} {a b n k : Nat} (h : k ≠ b) : cpd g a b n k = g k := updA_ne h
theorem cpd_at {g : Nat → Nat → Int32} {a b n j : Nat} (h : j < n) : cpd g a b n b j = g a j := by
  unfold cpd; rw [updA_at, if_pos h]
theorem zI_cpd {T : Nat → Nat → Option (Int × Int)} {g : Nat → Nat → Int32} {a b n : Nat} (hI : zI T g) (e : ∀ j, j < n → T b j = T a j ∨ T b j = none) : zI T (cpd g a b n) := by
  intro k j lo hi h
  by_cases hk : k = b
  · subst hk
    by_cases hj : j < n
    · rw [cpd_at hj]
      rcases e j hj with q | q
      · exact hI a j lo hi (q.symm.trans h)
      · rw [q] at h; exact nomatch h
    · have : cpd g a k n k j = g k j := by unfold cpd; rw [updA_at, if_neg hj]
      rw [this]; exact hI k j lo hi h
  · rw [cpd_ne hk]; exact hI k j lo hi h
set_option maxHeartbeats 4000000 in
theorem uX12_copies_15_1 (fu : Nat) (hfu : 1180591620717411303424 ≤ fu) (g0 : Nat → Nat → Int32) (L0 : Nat → Nat → Int64) : Ex (fX12_copies_15_1 fu g0 L0) (fun (r : Unit) g1 L1 => g1 = cpd g0 15 1 12) := by
  unfold fX12_copies_15_1 fX12_copies_15_1_l2
  have e0 : (0 : Int32).toInt = 0 := by decide
  refine Ex.loop (α := Int32 × (Nat → Nat → Int32) × (Nat → Nat → Int64)) (fun v => (0 ≤ v.1.toInt ∧ v.1.toInt ≤ 12) ∧ v.2.1 = cpd g0 15 1 v.1.toNatClampNeg) (fun v => 13 - v.1.toInt) (by omega) (by show 13 - (0 : Int32).toInt < (fu : Int); omega) ⟨(show 0 ≤ (0 : Int32).toInt ∧ (0 : Int32).toInt ≤ 12 from by omega), (cpd_0 g0 15 1).symm⟩ (fun k2 v hv ih => ?_)
  obtain ⟨v3, g, L⟩ := v
  obtain ⟨hb, hg⟩ := hv
  have hb : 0 ≤ v3.toInt ∧ v3.toInt ≤ 12 := hb
  have hg : g = cpd g0 15 1 v3.toNatClampNeg := hg
  show Ex (fX12_copies_15_1_s2 fu k2 v3 g L) _
  unfold fX12_copies_15_1_s2
  refine Ex.ite (fun c => ?_) (fun c => ?_)
  · have c := icc_le (m := 12) (n := v3.toInt) (by decide) rfl c
    have n12 : v3.toNatClampNeg = 12 := by rw [nc]; omega
    rw [n12] at hg
    exact Ex.ret hg
  · have c := icc_nle (m := 12) (n := v3.toInt) (by decide) rfl c
    refine Ex.ck (by omega) (by omega) (Ex.ck (by omega) (by omega) ?_)
    refine Ex.sti z_none (fun g2 g2e _ => ?_)
    generalize hw : v3 + 1 = w
    have ew : w.toInt = v3.toInt + 1 := by rw [← hw]; exact ic_addc rfl (by decide) (by omega) (by omega)
    have nw : w.toNatClampNeg = v3.toNatClampNeg + 1 := by rw [nc, nc]; omega
    refine ih (w, g2, L) ⟨(show 0 ≤ w.toInt ∧ w.toInt ≤ 12 from by omega), ?_⟩ (by show 13 - w.toInt < 13 - v3.toInt; omega) (by show 0 < 13 - v3.toInt; omega)
    show g2 = cpd g0 15 1 w.toNatClampNeg
    rw [nw, g2e, hg]; exact cpd_s g0 (by decide) v3.toNatClampNeg
set_option maxHeartbeats 4000000 in
theorem uX12_copies_16_2 (fu : Nat) (hfu : 1180591620717411303424 ≤ fu) (g0 : Nat → Nat → Int32) (L0 : Nat → Nat → Int64) : Ex (fX12_copies_16_2 fu g0 L0) (fun (r : Unit) g1 L1 => g1 = cpd g0 16 2 12) := by
  unfold fX12_copies_16_2 fX12_copies_16_2_l2
  have e0 : (0 : Int32).toInt = 0 := by decide
  refine Ex.loop (α := Int32 × (Nat → Nat → Int32) × (Nat → Nat → Int64)) (fun v => (0 ≤ v.1.toInt ∧ v.1.toInt ≤ 12) ∧ v.2.1 = cpd g0 16 2 v.1.toNatClampNeg) (fun v => 13 - v.1.toInt) (by omega) (by show 13 - (0 : Int32).toInt < (fu : Int); omega) ⟨(show 0 ≤ (0 : Int32).toInt ∧ (0 : Int32).toInt ≤ 12 from by omega), (cpd_0 g0 16 2).symm⟩ (fun k2 v hv ih => ?_)
  obtain ⟨v3, g, L⟩ := v
  obtain ⟨hb, hg⟩ := hv
  have hb : 0 ≤ v3.toInt ∧ v3.toInt ≤ 12 := hb
  have hg : g = cpd g0 16 2 v3.toNatClampNeg := hg
  show Ex (fX12_copies_16_2_s2 fu k2 v3 g L) _
  unfold fX12_copies_16_2_s2
  refine Ex.ite (fun c => ?_) (fun c => ?_)
  · have c := icc_le (m := 12) (n := v3.toInt) (by decide) rfl c
    have n12 : v3.toNatClampNeg = 12 := by rw [nc]; omega
    rw [n12] at hg
    exact Ex.ret hg
  · have c := icc_nle (m := 12) (n := v3.toInt) (by decide) rfl c
    refine Ex.ck (by omega) (by omega) (Ex.ck (by omega) (by omega) ?_)
    refine Ex.sti z_none (fun g2 g2e _ => ?_)
    generalize hw : v3 + 1 = w
    have ew : w.toInt = v3.toInt + 1 := by rw [← hw]; exact ic_addc rfl (by decide) (by omega) (by omega)
    have nw : w.toNatClampNeg = v3.toNatClampNeg + 1 := by rw [nc, nc]; omega
    refine ih (w, g2, L) ⟨(show 0 ≤ w.toInt ∧ w.toInt ≤ 12 from by omega), ?_⟩ (by show 13 - w.toInt < 13 - v3.toInt; omega) (by show 0 < 13 - v3.toInt; omega)
    show g2 = cpd g0 16 2 w.toNatClampNeg
    rw [nw, g2e, hg]; exact cpd_s g0 (by decide) v3.toNatClampNeg
set_option maxHeartbeats 4000000 in
theorem uX12_copies_17_3 (fu : Nat) (hfu : 1180591620717411303424 ≤ fu) (g0 : Nat → Nat → Int32) (L0 : Nat → Nat → Int64) : Ex (fX12_copies_17_3 fu g0 L0) (fun (r : Unit) g1 L1 => g1 = cpd g0 17 3 12) := by
  unfold fX12_copies_17_3 fX12_copies_17_3_l2
  have e0 : (0 : Int32).toInt = 0 := by decide
  refine Ex.loop (α := Int32 × (Nat → Nat → Int32) × (Nat → Nat → Int64)) (fun v => (0 ≤ v.1.toInt ∧ v.1.toInt ≤ 12) ∧ v.2.1 = cpd g0 17 3 v.1.toNatClampNeg) (fun v => 13 - v.1.toInt) (by omega) (by show 13 - (0 : Int32).toInt < (fu : Int); omega) ⟨(show 0 ≤ (0 : Int32).toInt ∧ (0 : Int32).toInt ≤ 12 from by omega), (cpd_0 g0 17 3).symm⟩ (fun k2 v hv ih => ?_)
  obtain ⟨v3, g, L⟩ := v
  obtain ⟨hb, hg⟩ := hv
  have hb : 0 ≤ v3.toInt ∧ v3.toInt ≤ 12 := hb
  have hg : g = cpd g0 17 3 v3.toNatClampNeg := hg
  show Ex (fX12_copies_17_3_s2 fu k2 v3 g L) _
  unfold fX12_copies_17_3_s2
  refine Ex.ite (fun c => ?_) (fun c => ?_)
  · have c := icc_le (m := 12) (n := v3.toInt) (by decide) rfl c
    have n12 : v3.toNatClampNeg = 12 := by rw [nc]; omega
    rw [n12] at hg
    exact Ex.ret hg
  · have c := icc_nle (m := 12) (n := v3.toInt) (by decide) rfl c
    refine Ex.ck (by omega) (by omega) (Ex.ck (by omega) (by omega) ?_)
    refine Ex.sti z_none (fun g2 g2e _ => ?_)
    generalize hw : v3 + 1 = w
    have ew : w.toInt = v3.toInt + 1 := by rw [← hw]; exact ic_addc rfl (by decide) (by omega) (by omega)
    have nw : w.toNatClampNeg = v3.toNatClampNeg + 1 := by rw [nc, nc]; omega
    refine ih (w, g2, L) ⟨(show 0 ≤ w.toInt ∧ w.toInt ≤ 12 from by omega), ?_⟩ (by show 13 - w.toInt < 13 - v3.toInt; omega) (by show 0 < 13 - v3.toInt; omega)
    show g2 = cpd g0 17 3 w.toNatClampNeg
    rw [nw, g2e, hg]; exact cpd_s g0 (by decide) v3.toNatClampNeg
set_option maxHeartbeats 4000000 in
theorem uX12_copies_18_4 (fu : Nat) (hfu : 1180591620717411303424 ≤ fu) (g0 : Nat → Nat → Int32) (L0 : Nat → Nat → Int64) : Ex (fX12_copies_18_4 fu g0 L0) (fun (r : Unit) g1 L1 => g1 = cpd g0 18 4 12) := by
  unfold fX12_copies_18_4 fX12_copies_18_4_l2
  have e0 : (0 : Int32).toInt = 0 := by decide
  refine Ex.loop (α := Int32 × (Nat → Nat → Int32) × (Nat → Nat → Int64)) (fun v => (0 ≤ v.1.toInt ∧ v.1.toInt ≤ 12) ∧ v.2.1 = cpd g0 18 4 v.1.toNatClampNeg) (fun v => 13 - v.1.toInt) (by omega) (by show 13 - (0 : Int32).toInt < (fu : Int); omega) ⟨(show 0 ≤ (0 : Int32).toInt ∧ (0 : Int32).toInt ≤ 12 from by omega), (cpd_0 g0 18 4).symm⟩ (fun k2 v hv ih => ?_)
  obtain ⟨v3, g, L⟩ := v
  obtain ⟨hb, hg⟩ := hv
  have hb : 0 ≤ v3.toInt ∧ v3.toInt ≤ 12 := hb
  have hg : g = cpd g0 18 4 v3.toNatClampNeg := hg
  show Ex (fX12_copies_18_4_s2 fu k2 v3 g L) _
  unfold fX12_copies_18_4_s2
  refine Ex.ite (fun c => ?_) (fun c => ?_)
  · have c := icc_le (m := 12) (n := v3.toInt) (by decide) rfl c
    have n12 : v3.toNatClampNeg = 12 := by rw [nc]; omega
    rw [n12] at hg
    exact Ex.ret hg
  · have c := icc_nle (m := 12) (n := v3.toInt) (by decide) rfl c
    refine Ex.ck (by omega) (by omega) (Ex.ck (by omega) (by omega) ?_)
    refine Ex.sti z_none (fun g2 g2e _ => ?_)
    generalize hw : v3 + 1 = w
    have ew : w.toInt = v3.toInt + 1 := by rw [← hw]; exact ic_addc rfl (by decide) (by omega) (by omega)
    have nw : w.toNatClampNeg = v3.toNatClampNeg + 1 := by rw [nc, nc]; omega
    refine ih (w, g2, L) ⟨(show 0 ≤ w.toInt ∧ w.toInt ≤ 12 from by omega), ?_⟩ (by show 13 - w.toInt < 13 - v3.toInt; omega) (by show 0 < 13 - v3.toInt; omega)
    show g2 = cpd g0 18 4 w.toNatClampNeg
    rw [nw, g2e, hg]; exact cpd_s g0 (by decide) v3.toNatClampNeg
set_option maxHeartbeats 4000000 in
theorem uX12_copies_19_5 (fu : Nat) (hfu : 1180591620717411303424 ≤ fu) (g0 : Nat → Nat → Int32) (L0 : Nat → Nat → Int64) : Ex (fX12_copies_19_5 fu g0 L0) (fun (r : Unit) g1 L1 => g1 = cpd g0 19 5 12) := by
  unfold fX12_copies_19_5 fX12_copies_19_5_l2
  have e0 : (0 : Int32).toInt = 0 := by decide
  refine Ex.loop (α := Int32 × (Nat → Nat → Int32) × (Nat → Nat → Int64)) (fun v => (0 ≤ v.1.toInt ∧ v.1.toInt ≤ 12) ∧ v.2.1 = cpd g0 19 5 v.1.toNatClampNeg) (fun v => 13 - v.1.toInt) (by omega) (by show 13 - (0 : Int32).toInt < (fu : Int); omega) ⟨(show 0 ≤ (0 : Int32).toInt ∧ (0 : Int32).toInt ≤ 12 from by omega), (cpd_0 g0 19 5).symm⟩ (fun k2 v hv ih => ?_)
  obtain ⟨v3, g, L⟩ := v
  obtain ⟨hb, hg⟩ := hv
  have hb : 0 ≤ v3.toInt ∧ v3.toInt ≤ 12 := hb
  have hg : g = cpd g0 19 5 v3.toNatClampNeg := hg
  show Ex (fX12_copies_19_5_s2 fu k2 v3 g L) _
  unfold fX12_copies_19_5_s2
  refine Ex.ite (fun c => ?_) (fun c => ?_)
  · have c := icc_le (m := 12) (n := v3.toInt) (by decide) rfl c
    have n12 : v3.toNatClampNeg = 12 := by rw [nc]; omega
    rw [n12] at hg
    exact Ex.ret hg
  · have c := icc_nle (m := 12) (n := v3.toInt) (by decide) rfl c
    refine Ex.ck (by omega) (by omega) (Ex.ck (by omega) (by omega) ?_)
    refine Ex.sti z_none (fun g2 g2e _ => ?_)
    generalize hw : v3 + 1 = w
    have ew : w.toInt = v3.toInt + 1 := by rw [← hw]; exact ic_addc rfl (by decide) (by omega) (by omega)
    have nw : w.toNatClampNeg = v3.toNatClampNeg + 1 := by rw [nc, nc]; omega
    refine ih (w, g2, L) ⟨(show 0 ≤ w.toInt ∧ w.toInt ≤ 12 from by omega), ?_⟩ (by show 13 - w.toInt < 13 - v3.toInt; omega) (by show 0 < 13 - v3.toInt; omega)
    show g2 = cpd g0 19 5 w.toNatClampNeg
    rw [nw, g2e, hg]; exact cpd_s g0 (by decide) v3.toNatClampNeg
set_option maxHeartbeats 4000000 in
theorem uX12_copies_20_6 (fu : Nat) (hfu : 1180591620717411303424 ≤ fu) (g0 : Nat → Nat → Int32) (L0 : Nat → Nat → Int64) : Ex (fX12_copies_20_6 fu g0 L0) (fun (r : Unit) g1 L1 => g1 = cpd g0 20 6 12) := by
  unfold fX12_copies_20_6 fX12_copies_20_6_l2
  have e0 : (0 : Int32).toInt = 0 := by decide
  refine Ex.loop (α := Int32 × (Nat → Nat → Int32) × (Nat → Nat → Int64)) (fun v => (0 ≤ v.1.toInt ∧ v.1.toInt ≤ 12) ∧ v.2.1 = cpd g0 20 6 v.1.toNatClampNeg) (fun v => 13 - v.1.toInt) (by omega) (by show 13 - (0 : Int32).toInt < (fu : Int); omega) ⟨(show 0 ≤ (0 : Int32).toInt ∧ (0 : Int32).toInt ≤ 12 from by omega), (cpd_0 g0 20 6).symm⟩ (fun k2 v hv ih => ?_)
  obtain ⟨v3, g, L⟩ := v
  obtain ⟨hb, hg⟩ := hv
  have hb : 0 ≤ v3.toInt ∧ v3.toInt ≤ 12 := hb
  have hg : g = cpd g0 20 6 v3.toNatClampNeg := hg
  show Ex (fX12_copies_20_6_s2 fu k2 v3 g L) _
  unfold fX12_copies_20_6_s2
  refine Ex.ite (fun c => ?_) (fun c => ?_)
  · have c := icc_le (m := 12) (n := v3.toInt) (by decide) rfl c
    have n12 : v3.toNatClampNeg = 12 := by rw [nc]; omega
    rw [n12] at hg
    exact Ex.ret hg
  · have c := icc_nle (m := 12) (n := v3.toInt) (by decide) rfl c
    refine Ex.ck (by omega) (by omega) (Ex.ck (by omega) (by omega) ?_)
    refine Ex.sti z_none (fun g2 g2e _ => ?_)
    generalize hw : v3 + 1 = w
    have ew : w.toInt = v3.toInt + 1 := by rw [← hw]; exact ic_addc rfl (by decide) (by omega) (by omega)
    have nw : w.toNatClampNeg = v3.toNatClampNeg + 1 := by rw [nc, nc]; omega
    refine ih (w, g2, L) ⟨(show 0 ≤ w.toInt ∧ w.toInt ≤ 12 from by omega), ?_⟩ (by show 13 - w.toInt < 13 - v3.toInt; omega) (by show 0 < 13 - v3.toInt; omega)
    show g2 = cpd g0 20 6 w.toNatClampNeg
    rw [nw, g2e, hg]; exact cpd_s g0 (by decide) v3.toNatClampNeg
set_option maxHeartbeats 4000000 in
theorem uX12_copies_21_7 (fu : Nat) (hfu : 1180591620717411303424 ≤ fu) (g0 : Nat → Nat → Int32) (L0 : Nat → Nat → Int64) : Ex (fX12_copies_21_7 fu g0 L0) (fun (r : Unit) g1 L1 => g1 = cpd g0 21 7 12) := by
  unfold fX12_copies_21_7 fX12_copies_21_7_l2
  have e0 : (0 : Int32).toInt = 0 := by decide
  refine Ex.loop (α := Int32 × (Nat → Nat → Int32) × (Nat → Nat → Int64)) (fun v => (0 ≤ v.1.toInt ∧ v.1.toInt ≤ 12) ∧ v.2.1 = cpd g0 21 7 v.1.toNatClampNeg) (fun v => 13 - v.1.toInt) (by omega) (by show 13 - (0 : Int32).toInt < (fu : Int); omega) ⟨(show 0 ≤ (0 : Int32).toInt ∧ (0 : Int32).toInt ≤ 12 from by omega), (cpd_0 g0 21 7).symm⟩ (fun k2 v hv ih => ?_)
  obtain ⟨v3, g, L⟩ := v
  obtain ⟨hb, hg⟩ := hv
  have hb : 0 ≤ v3.toInt ∧ v3.toInt ≤ 12 := hb
  have hg : g = cpd g0 21 7 v3.toNatClampNeg := hg
  show Ex (fX12_copies_21_7_s2 fu k2 v3 g L) _
  unfold fX12_copies_21_7_s2
  refine Ex.ite (fun c => ?_) (fun c => ?_)
  · have c := icc_le (m := 12) (n := v3.toInt) (by decide) rfl c
    have n12 : v3.toNatClampNeg = 12 := by rw [nc]; omega
    rw [n12] at hg
    exact Ex.ret hg
  · have c := icc_nle (m := 12) (n := v3.toInt) (by decide) rfl c
    refine Ex.ck (by omega) (by omega) (Ex.ck (by omega) (by omega) ?_)
    refine Ex.sti z_none (fun g2 g2e _ => ?_)
    generalize hw : v3 + 1 = w
    have ew : w.toInt = v3.toInt + 1 := by rw [← hw]; exact ic_addc rfl (by decide) (by omega) (by omega)
    have nw : w.toNatClampNeg = v3.toNatClampNeg + 1 := by rw [nc, nc]; omega
    refine ih (w, g2, L) ⟨(show 0 ≤ w.toInt ∧ w.toInt ≤ 12 from by omega), ?_⟩ (by show 13 - w.toInt < 13 - v3.toInt; omega) (by show 0 < 13 - v3.toInt; omega)
    show g2 = cpd g0 21 7 w.toNatClampNeg
    rw [nw, g2e, hg]; exact cpd_s g0 (by decide) v3.toNatClampNeg
set_option maxHeartbeats 4000000 in
theorem uX12_copies_22_8 (fu : Nat) (hfu : 1180591620717411303424 ≤ fu) (g0 : Nat → Nat → Int32) (L0 : Nat → Nat → Int64) : Ex (fX12_copies_22_8 fu g0 L0) (fun (r : Unit) g1 L1 => g1 = cpd g0 22 8 12) := by
  unfold fX12_copies_22_8 fX12_copies_22_8_l2
  have e0 : (0 : Int32).toInt = 0 := by decide
  refine Ex.loop (α := Int32 × (Nat → Nat → Int32) × (Nat → Nat → Int64)) (fun v => (0 ≤ v.1.toInt ∧ v.1.toInt ≤ 12) ∧ v.2.1 = cpd g0 22 8 v.1.toNatClampNeg) (fun v => 13 - v.1.toInt) (by omega) (by show 13 - (0 : Int32).toInt < (fu : Int); omega) ⟨(show 0 ≤ (0 : Int32).toInt ∧ (0 : Int32).toInt ≤ 12 from by omega), (cpd_0 g0 22 8).symm⟩ (fun k2 v hv ih => ?_)
  obtain ⟨v3, g, L⟩ := v
  obtain ⟨hb, hg⟩ := hv
  have hb : 0 ≤ v3.toInt ∧ v3.toInt ≤ 12 := hb
  have hg : g = cpd g0 22 8 v3.toNatClampNeg := hg
  show Ex (fX12_copies_22_8_s2 fu k2 v3 g L) _
  unfold fX12_copies_22_8_s2
  refine Ex.ite (fun c => ?_) (fun c => ?_)
  · have c := icc_le (m := 12) (n := v3.toInt) (by decide) rfl c
    have n12 : v3.toNatClampNeg = 12 := by rw [nc]; omega
    rw [n12] at hg
    exact Ex.ret hg
  · have c := icc_nle (m := 12) (n := v3.toInt) (by decide) rfl c
    refine Ex.ck (by omega) (by omega) (Ex.ck (by omega) (by omega) ?_)
    refine Ex.sti z_none (fun g2 g2e _ => ?_)
    generalize hw : v3 + 1 = w
    have ew : w.toInt = v3.toInt + 1 := by rw [← hw]; exact ic_addc rfl (by decide) (by omega) (by omega)
    have nw : w.toNatClampNeg = v3.toNatClampNeg + 1 := by rw [nc, nc]; omega
    refine ih (w, g2, L) ⟨(show 0 ≤ w.toInt ∧ w.toInt ≤ 12 from by omega), ?_⟩ (by show 13 - w.toInt < 13 - v3.toInt; omega) (by show 0 < 13 - v3.toInt; omega)
    show g2 = cpd g0 22 8 w.toNatClampNeg
    rw [nw, g2e, hg]; exact cpd_s g0 (by decide) v3.toNatClampNeg
set_option maxHeartbeats 4000000 in
theorem uX12_copies_23_9 (fu : Nat) (hfu : 1180591620717411303424 ≤ fu) (g0 : Nat → Nat → Int32) (L0 : Nat → Nat → Int64) : Ex (fX12_copies_23_9 fu g0 L0) (fun (r : Unit) g1 L1 => g1 = cpd g0 23 9 72) := by
  unfold fX12_copies_23_9 fX12_copies_23_9_l2
  have e0 : (0 : Int32).toInt = 0 := by decide
  refine Ex.loop (α := Int32 × (Nat → Nat → Int32) × (Nat → Nat → Int64)) (fun v => (0 ≤ v.1.toInt ∧ v.1.toInt ≤ 72) ∧ v.2.1 = cpd g0 23 9 v.1.toNatClampNeg) (fun v => 73 - v.1.toInt) (by omega) (by show 73 - (0 : Int32).toInt < (fu : Int); omega) ⟨(show 0 ≤ (0 : Int32).toInt ∧ (0 : Int32).toInt ≤ 72 from by omega), (cpd_0 g0 23 9).symm⟩ (fun k2 v hv ih => ?_)
  obtain ⟨v3, g, L⟩ := v
  obtain ⟨hb, hg⟩ := hv
  have hb : 0 ≤ v3.toInt ∧ v3.toInt ≤ 72 := hb
  have hg : g = cpd g0 23 9 v3.toNatClampNeg := hg
  show Ex (fX12_copies_23_9_s2 fu k2 v3 g L) _
  unfold fX12_copies_23_9_s2
  refine Ex.ite (fun c => ?_) (fun c => ?_)
  · have c := icc_le (m := 72) (n := v3.toInt) (by decide) rfl c
    have n12 : v3.toNatClampNeg = 72 := by rw [nc]; omega
    rw [n12] at hg
    exact Ex.ret hg
  · have c := icc_nle (m := 72) (n := v3.toInt) (by decide) rfl c
    refine Ex.ck (by omega) (by omega) (Ex.ck (by omega) (by omega) ?_)
    refine Ex.sti z_none (fun g2 g2e _ => ?_)
    generalize hw : v3 + 1 = w
    have ew : w.toInt = v3.toInt + 1 := by rw [← hw]; exact ic_addc rfl (by decide) (by omega) (by omega)
    have nw : w.toNatClampNeg = v3.toNatClampNeg + 1 := by rw [nc, nc]; omega
    refine ih (w, g2, L) ⟨(show 0 ≤ w.toInt ∧ w.toInt ≤ 72 from by omega), ?_⟩ (by show 73 - w.toInt < 73 - v3.toInt; omega) (by show 0 < 73 - v3.toInt; omega)
    show g2 = cpd g0 23 9 w.toNatClampNeg
    rw [nw, g2e, hg]; exact cpd_s g0 (by decide) v3.toNatClampNeg
set_option maxHeartbeats 4000000 in
theorem uX12_copies_24_12 (fu : Nat) (hfu : 1180591620717411303424 ≤ fu) (g0 : Nat → Nat → Int32) (L0 : Nat → Nat → Int64) : Ex (fX12_copies_24_12 fu g0 L0) (fun (r : Unit) g1 L1 => g1 = cpd g0 24 12 48) := by
  unfold fX12_copies_24_12 fX12_copies_24_12_l2
  have e0 : (0 : Int32).toInt = 0 := by decide
  refine Ex.loop (α := Int32 × (Nat → Nat → Int32) × (Nat → Nat → Int64)) (fun v => (0 ≤ v.1.toInt ∧ v.1.toInt ≤ 48) ∧ v.2.1 = cpd g0 24 12 v.1.toNatClampNeg) (fun v => 49 - v.1.toInt) (by omega) (by show 49 - (0 : Int32).toInt < (fu : Int); omega) ⟨(show 0 ≤ (0 : Int32).toInt ∧ (0 : Int32).toInt ≤ 48 from by omega), (cpd_0 g0 24 12).symm⟩ (fun k2 v hv ih => ?_)
  obtain ⟨v3, g, L⟩ := v
  obtain ⟨hb, hg⟩ := hv
  have hb : 0 ≤ v3.toInt ∧ v3.toInt ≤ 48 := hb
  have hg : g = cpd g0 24 12 v3.toNatClampNeg := hg
  show Ex (fX12_copies_24_12_s2 fu k2 v3 g L) _
  unfold fX12_copies_24_12_s2
  refine Ex.ite (fun c => ?_) (fun c => ?_)
  · have c := icc_le (m := 48) (n := v3.toInt) (by decide) rfl c
    have n12 : v3.toNatClampNeg = 48 := by rw [nc]; omega
    rw [n12] at hg
    exact Ex.ret hg
  · have c := icc_nle (m := 48) (n := v3.toInt) (by decide) rfl c
    refine Ex.ck (by omega) (by omega) (Ex.ck (by omega) (by omega) ?_)
    refine Ex.sti z_none (fun g2 g2e _ => ?_)
    generalize hw : v3 + 1 = w
    have ew : w.toInt = v3.toInt + 1 := by rw [← hw]; exact ic_addc rfl (by decide) (by omega) (by omega)
    have nw : w.toNatClampNeg = v3.toNatClampNeg + 1 := by rw [nc, nc]; omega
    refine ih (w, g2, L) ⟨(show 0 ≤ w.toInt ∧ w.toInt ≤ 48 from by omega), ?_⟩ (by show 49 - w.toInt < 49 - v3.toInt; omega) (by show 0 < 49 - v3.toInt; omega)
    show g2 = cpd g0 24 12 w.toNatClampNeg
    rw [nw, g2e, hg]; exact cpd_s g0 (by decide) v3.toNatClampNeg
set_option maxHeartbeats 4000000 in
theorem uX12_copies_25_10 (fu : Nat) (hfu : 1180591620717411303424 ≤ fu) (g0 : Nat → Nat → Int32) (L0 : Nat → Nat → Int64) : Ex (fX12_copies_25_10 fu g0 L0) (fun (r : Unit) g1 L1 => g1 = cpd g0 25 10 4) := by
  unfold fX12_copies_25_10 fX12_copies_25_10_l2
  have e0 : (0 : Int32).toInt = 0 := by decide
  refine Ex.loop (α := Int32 × (Nat → Nat → Int32) × (Nat → Nat → Int64)) (fun v => (0 ≤ v.1.toInt ∧ v.1.toInt ≤ 4) ∧ v.2.1 = cpd g0 25 10 v.1.toNatClampNeg) (fun v => 5 - v.1.toInt) (by omega) (by show 5 - (0 : Int32).toInt < (fu : Int); omega) ⟨(show 0 ≤ (0 : Int32).toInt ∧ (0 : Int32).toInt ≤ 4 from by omega), (cpd_0 g0 25 10).symm⟩ (fun k2 v hv ih => ?_)
  obtain ⟨v3, g, L⟩ := v
  obtain ⟨hb, hg⟩ := hv
  have hb : 0 ≤ v3.toInt ∧ v3.toInt ≤ 4 := hb
  have hg : g = cpd g0 25 10 v3.toNatClampNeg := hg
  show Ex (fX12_copies_25_10_s2 fu k2 v3 g L) _
  unfold fX12_copies_25_10_s2
  refine Ex.ite (fun c => ?_) (fun c => ?_)
  · have c := icc_le (m := 4) (n := v3.toInt) (by decide) rfl c
    have n12 : v3.toNatClampNeg = 4 := by rw [nc]; omega
    rw [n12] at hg
    exact Ex.ret hg
  · have c := icc_nle (m := 4) (n := v3.toInt) (by decide) rfl c
    refine Ex.ck (by omega) (by omega) (Ex.ck (by omega) (by omega) ?_)
    refine Ex.sti z_none (fun g2 g2e _ => ?_)
    generalize hw : v3 + 1 = w
    have ew : w.toInt = v3.toInt + 1 := by rw [← hw]; exact ic_addc rfl (by decide) (by omega) (by omega)
    have nw : w.toNatClampNeg = v3.toNatClampNeg + 1 := by rw [nc, nc]; omega
    refine ih (w, g2, L) ⟨(show 0 ≤ w.toInt ∧ w.toInt ≤ 4 from by omega), ?_⟩ (by show 5 - w.toInt < 5 - v3.toInt; omega) (by show 0 < 5 - v3.toInt; omega)
    show g2 = cpd g0 25 10 w.toNatClampNeg
    rw [nw, g2e, hg]; exact cpd_s g0 (by decide) v3.toNatClampNeg
set_option maxHeartbeats 4000000 in
theorem uX12_copies_26_11 (fu : Nat) (hfu : 1180591620717411303424 ≤ fu) (g0 : Nat → Nat → Int32) (L0 : Nat → Nat → Int64) : Ex (fX12_copies_26_11 fu g0 L0) (fun (r : Unit) g1 L1 => g1 = cpd g0 26 11 1900) := by
  unfold fX12_copies_26_11 fX12_copies_26_11_l2
  have e0 : (0 : Int32).toInt = 0 := by decide
  refine Ex.loop (α := Int32 × (Nat → Nat → Int32) × (Nat → Nat → Int64)) (fun v => (0 ≤ v.1.toInt ∧ v.1.toInt ≤ 1900) ∧ v.2.1 = cpd g0 26 11 v.1.toNatClampNeg) (fun v => 1901 - v.1.toInt) (by omega) (by show 1901 - (0 : Int32).toInt < (fu : Int); omega) ⟨(show 0 ≤ (0 : Int32).toInt ∧ (0 : Int32).toInt ≤ 1900 from by omega), (cpd_0 g0 26 11).symm⟩ (fun k2 v hv ih => ?_)
  obtain ⟨v3, g, L⟩ := v
  obtain ⟨hb, hg⟩ := hv
  have hb : 0 ≤ v3.toInt ∧ v3.toInt ≤ 1900 := hb
  have hg : g = cpd g0 26 11 v3.toNatClampNeg := hg
  show Ex (fX12_copies_26_11_s2 fu k2 v3 g L) _
  unfold fX12_copies_26_11_s2
  refine Ex.ite (fun c => ?_) (fun c => ?_)
  · have c := icc_le (m := 1900) (n := v3.toInt) (by decide) rfl c
    have n12 : v3.toNatClampNeg = 1900 := by rw [nc]; omega
    rw [n12] at hg
    exact Ex.ret hg
  · have c := icc_nle (m := 1900) (n := v3.toInt) (by decide) rfl c
    refine Ex.ck (by omega) (by omega) (Ex.ck (by omega) (by omega) ?_)
    refine Ex.sti z_none (fun g2 g2e _ => ?_)
    generalize hw : v3 + 1 = w
    have ew : w.toInt = v3.toInt + 1 := by rw [← hw]; exact ic_addc rfl (by decide) (by omega) (by omega)
    have nw : w.toNatClampNeg = v3.toNatClampNeg + 1 := by rw [nc, nc]; omega
    refine ih (w, g2, L) ⟨(show 0 ≤ w.toInt ∧ w.toInt ≤ 1900 from by omega), ?_⟩ (by show 1901 - w.toInt < 1901 - v3.toInt; omega) (by show 0 < 1901 - v3.toInt; omega)
    show g2 = cpd g0 26 11 w.toNatClampNeg
    rw [nw, g2e, hg]; exact cpd_s g0 (by decide) v3.toNatClampNeg
set_option maxHeartbeats 4000000 in
theorem uX12_copies_12_48 (fu : Nat) (hfu : 1180591620717411303424 ≤ fu) (g0 : Nat → Nat → Int32) (L0 : Nat → Nat → Int64) : Ex (fX12_copies_12_48 fu g0 L0) (fun (r : Unit) g1 L1 => g1 = cpd g0 12 48 48) := by
  unfold fX12_copies_12_48 fX12_copies_12_48_l2
  have e0 : (0 : Int32).toInt = 0 := by decide
  refine Ex.loop (α := Int32 × (Nat → Nat → Int32) × (Nat → Nat → Int64)) (fun v => (0 ≤ v.1.toInt ∧ v.1.toInt ≤ 48) ∧ v.2.1 = cpd g0 12 48 v.1.toNatClampNeg) (fun v => 49 - v.1.toInt) (by omega) (by show 49 - (0 : Int32).toInt < (fu : Int); omega) ⟨(show 0 ≤ (0 : Int32).toInt ∧ (0 : Int32).toInt ≤ 48 from by omega), (cpd_0 g0 12 48).symm⟩ (fun k2 v hv ih => ?_)
  obtain ⟨v3, g, L⟩ := v
  obtain ⟨hb, hg⟩ := hv
  have hb : 0 ≤ v3.toInt ∧ v3.toInt ≤ 48 := hb
  have hg : g = cpd g0 12 48 v3.toNatClampNeg := hg
  show Ex (fX12_copies_12_48_s2 fu k2 v3 g L) _
  unfold fX12_copies_12_48_s2
  refine Ex.ite (fun c => ?_) (fun c => ?_)
  · have c := icc_le (m := 48) (n := v3.toInt) (by decide) rfl c
    have n12 : v3.toNatClampNeg = 48 := by rw [nc]; omega
    rw [n12] at hg
    exact Ex.ret hg
  · have c := icc_nle (m := 48) (n := v3.toInt) (by decide) rfl c
    refine Ex.ck (by omega) (by omega) (Ex.ck (by omega) (by omega) ?_)
    refine Ex.sti z_none (fun g2 g2e _ => ?_)
    generalize hw : v3 + 1 = w
    have ew : w.toInt = v3.toInt + 1 := by rw [← hw]; exact ic_addc rfl (by decide) (by omega) (by omega)
    have nw : w.toNatClampNeg = v3.toNatClampNeg + 1 := by rw [nc, nc]; omega
    refine ih (w, g2, L) ⟨(show 0 ≤ w.toInt ∧ w.toInt ≤ 48 from by omega), ?_⟩ (by show 49 - w.toInt < 49 - v3.toInt; omega) (by show 0 < 49 - v3.toInt; omega)
    show g2 = cpd g0 12 48 w.toNatClampNeg
    rw [nw, g2e, hg]; exact cpd_s g0 (by decide) v3.toNatClampNeg
set_option maxHeartbeats 4000000 in
theorem uX12_copies_36_49 (fu : Nat) (hfu : 1180591620717411303424 ≤ fu) (g0 : Nat → Nat → Int32) (L0 : Nat → Nat → Int64) : Ex (fX12_copies_36_49 fu g0 L0) (fun (r : Unit) g1 L1 => g1 = cpd g0 36 49 80) := by
  unfold fX12_copies_36_49 fX12_copies_36_49_l2
  have e0 : (0 : Int32).toInt = 0 := by decide
  refine Ex.loop (α := Int32 × (Nat → Nat → Int32) × (Nat → Nat → Int64)) (fun v => (0 ≤ v.1.toInt ∧ v.1.toInt ≤ 80) ∧ v.2.1 = cpd g0 36 49 v.1.toNatClampNeg) (fun v => 81 - v.1.toInt) (by omega) (by show 81 - (0 : Int32).toInt < (fu : Int); omega) ⟨(show 0 ≤ (0 : Int32).toInt ∧ (0 : Int32).toInt ≤ 80 from by omega), (cpd_0 g0 36 49).symm⟩ (fun k2 v hv ih => ?_)
  obtain ⟨v3, g, L⟩ := v
  obtain ⟨hb, hg⟩ := hv
  have hb : 0 ≤ v3.toInt ∧ v3.toInt ≤ 80 := hb
  have hg : g = cpd g0 36 49 v3.toNatClampNeg := hg
  show Ex (fX12_copies_36_49_s2 fu k2 v3 g L) _
  unfold fX12_copies_36_49_s2
  refine Ex.ite (fun c => ?_) (fun c => ?_)
  · have c := icc_le (m := 80) (n := v3.toInt) (by decide) rfl c
    have n12 : v3.toNatClampNeg = 80 := by rw [nc]; omega
    rw [n12] at hg
    exact Ex.ret hg
  · have c := icc_nle (m := 80) (n := v3.toInt) (by decide) rfl c
    refine Ex.ck (by omega) (by omega) (Ex.ck (by omega) (by omega) ?_)
    refine Ex.sti z_none (fun g2 g2e _ => ?_)
    generalize hw : v3 + 1 = w
    have ew : w.toInt = v3.toInt + 1 := by rw [← hw]; exact ic_addc rfl (by decide) (by omega) (by omega)
    have nw : w.toNatClampNeg = v3.toNatClampNeg + 1 := by rw [nc, nc]; omega
    refine ih (w, g2, L) ⟨(show 0 ≤ w.toInt ∧ w.toInt ≤ 80 from by omega), ?_⟩ (by show 81 - w.toInt < 81 - v3.toInt; omega) (by show 0 < 81 - v3.toInt; omega)
    show g2 = cpd g0 36 49 w.toNatClampNeg
    rw [nw, g2e, hg]; exact cpd_s g0 (by decide) v3.toNatClampNeg
set_option maxHeartbeats 4000000 in
theorem uX12_copies_43_50 (fu : Nat) (hfu : 1180591620717411303424 ≤ fu) (g0 : Nat → Nat → Int32) (L0 : Nat → Nat → Int64) : Ex (fX12_copies_43_50 fu g0 L0) (fun (r : Unit) g1 L1 => g1 = cpd g0 43 50 16) := by
  unfold fX12_copies_43_50 fX12_copies_43_50_l2
  have e0 : (0 : Int32).toInt = 0 := by decide
  refine Ex.loop (α := Int32 × (Nat → Nat → Int32) × (Nat → Nat → Int64)) (fun v => (0 ≤ v.1.toInt ∧ v.1.toInt ≤ 16) ∧ v.2.1 = cpd g0 43 50 v.1.toNatClampNeg) (fun v => 17 - v.1.toInt) (by omega) (by show 17 - (0 : Int32).toInt < (fu : Int); omega) ⟨(show 0 ≤ (0 : Int32).toInt ∧ (0 : Int32).toInt ≤ 16 from by omega), (cpd_0 g0 43 50).symm⟩ (fun k2 v hv ih => ?_)
  obtain ⟨v3, g, L⟩ := v
  obtain ⟨hb, hg⟩ := hv
  have hb : 0 ≤ v3.toInt ∧ v3.toInt ≤ 16 := hb
  have hg : g = cpd g0 43 50 v3.toNatClampNeg := hg
  show Ex (fX12_copies_43_50_s2 fu k2 v3 g L) _
  unfold fX12_copies_43_50_s2
  refine Ex.ite (fun c => ?_) (fun c => ?_)
  · have c := icc_le (m := 16) (n := v3.toInt) (by decide) rfl c
    have n12 : v3.toNatClampNeg = 16 := by rw [nc]; omega
    rw [n12] at hg
    exact Ex.ret hg
  · have c := icc_nle (m := 16) (n := v3.toInt) (by decide) rfl c
    refine Ex.ck (by omega) (by omega) (Ex.ck (by omega) (by omega) ?_)
    refine Ex.sti z_none (fun g2 g2e _ => ?_)
    generalize hw : v3 + 1 = w
    have ew : w.toInt = v3.toInt + 1 := by rw [← hw]; exact ic_addc rfl (by decide) (by omega) (by omega)
    have nw : w.toNatClampNeg = v3.toNatClampNeg + 1 := by rw [nc, nc]; omega
    refine ih (w, g2, L) ⟨(show 0 ≤ w.toInt ∧ w.toInt ≤ 16 from by omega), ?_⟩ (by show 17 - w.toInt < 17 - v3.toInt; omega) (by show 0 < 17 - v3.toInt; omega)
    show g2 = cpd g0 43 50 w.toNatClampNeg
    rw [nw, g2e, hg]; exact cpd_s g0 (by decide) v3.toNatClampNeg
set_option maxHeartbeats 4000000 in
theorem uX12_copies_48_12 (fu : Nat) (hfu : 1180591620717411303424 ≤ fu) (g0 : Nat → Nat → Int32) (L0 : Nat → Nat → Int64) : Ex (fX12_copies_48_12 fu g0 L0) (fun (r : Unit) g1 L1 => g1 = cpd g0 48 12 48) := by
  unfold fX12_copies_48_12 fX12_copies_48_12_l2
  have e0 : (0 : Int32).toInt = 0 := by decide
  refine Ex.loop (α := Int32 × (Nat → Nat → Int32) × (Nat → Nat → Int64)) (fun v => (0 ≤ v.1.toInt ∧ v.1.toInt ≤ 48) ∧ v.2.1 = cpd g0 48 12 v.1.toNatClampNeg) (fun v => 49 - v.1.toInt) (by omega) (by show 49 - (0 : Int32).toInt < (fu : Int); omega) ⟨(show 0 ≤ (0 : Int32).toInt ∧ (0 : Int32).toInt ≤ 48 from by omega), (cpd_0 g0 48 12).symm⟩ (fun k2 v hv ih => ?_)
  obtain ⟨v3, g, L⟩ := v
  obtain ⟨hb, hg⟩ := hv
  have hb : 0 ≤ v3.toInt ∧ v3.toInt ≤ 48 := hb
  have hg : g = cpd g0 48 12 v3.toNatClampNeg := hg
  show Ex (fX12_copies_48_12_s2 fu k2 v3 g L) _
  unfold fX12_copies_48_12_s2
  refine Ex.ite (fun c => ?_) (fun c => ?_)
  · have c := icc_le (m := 48) (n := v3.toInt) (by decide) rfl c
    have n12 : v3.toNatClampNeg = 48 := by rw [nc]; omega
    rw [n12] at hg
    exact Ex.ret hg
  · have c := icc_nle (m := 48) (n := v3.toInt) (by decide) rfl c
    refine Ex.ck (by omega) (by omega) (Ex.ck (by omega) (by omega) ?_)
    refine Ex.sti z_none (fun g2 g2e _ => ?_)
    generalize hw : v3 + 1 = w
    have ew : w.toInt = v3.toInt + 1 := by rw [← hw]; exact ic_addc rfl (by decide) (by omega) (by omega)
    have nw : w.toNatClampNeg = v3.toNatClampNeg + 1 := by rw [nc, nc]; omega
    refine ih (w, g2, L) ⟨(show 0 ≤ w.toInt ∧ w.toInt ≤ 48 from by omega), ?_⟩ (by show 49 - w.toInt < 49 - v3.toInt; omega) (by show 0 < 49 - v3.toInt; omega)
    show g2 = cpd g0 48 12 w.toNatClampNeg
    rw [nw, g2e, hg]; exact cpd_s g0 (by decide) v3.toNatClampNeg
set_option maxHeartbeats 4000000 in
theorem uX12_copies_49_36 (fu : Nat) (hfu : 1180591620717411303424 ≤ fu) (g0 : Nat → Nat → Int32) (L0 : Nat → Nat → Int64) : Ex (fX12_copies_49_36 fu g0 L0) (fun (r : Unit) g1 L1 => g1 = cpd g0 49 36 80) := by
  unfold fX12_copies_49_36 fX12_copies_49_36_l2
  have e0 : (0 : Int32).toInt = 0 := by decide
  refine Ex.loop (α := Int32 × (Nat → Nat → Int32) × (Nat → Nat → Int64)) (fun v => (0 ≤ v.1.toInt ∧ v.1.toInt ≤ 80) ∧ v.2.1 = cpd g0 49 36 v.1.toNatClampNeg) (fun v => 81 - v.1.toInt) (by omega) (by show 81 - (0 : Int32).toInt < (fu : Int); omega) ⟨(show 0 ≤ (0 : Int32).toInt ∧ (0 : Int32).toInt ≤ 80 from by omega), (cpd_0 g0 49 36).symm⟩ (fun k2 v hv ih => ?_)
  obtain ⟨v3, g, L⟩ := v
  obtain ⟨hb, hg⟩ := hv
  have hb : 0 ≤ v3.toInt ∧ v3.toInt ≤ 80 := hb
  have hg : g = cpd g0 49 36 v3.toNatClampNeg := hg
  show Ex (fX12_copies_49_36_s2 fu k2 v3 g L) _
  unfold fX12_copies_49_36_s2
  refine Ex.ite (fun c => ?_) (fun c => ?_)
  · have c := icc_le (m := 80) (n := v3.toInt) (by decide) rfl c
    have n12 : v3.toNatClampNeg = 80 := by rw [nc]; omega
    rw [n12] at hg
    exact Ex.ret hg
  · have c := icc_nle (m := 80) (n := v3.toInt) (by decide) rfl c
    refine Ex.ck (by omega) (by omega) (Ex.ck (by omega) (by omega) ?_)
    refine Ex.sti z_none (fun g2 g2e _ => ?_)
    generalize hw : v3 + 1 = w
    have ew : w.toInt = v3.toInt + 1 := by rw [← hw]; exact ic_addc rfl (by decide) (by omega) (by omega)
    have nw : w.toNatClampNeg = v3.toNatClampNeg + 1 := by rw [nc, nc]; omega
    refine ih (w, g2, L) ⟨(show 0 ≤ w.toInt ∧ w.toInt ≤ 80 from by omega), ?_⟩ (by show 81 - w.toInt < 81 - v3.toInt; omega) (by show 0 < 81 - v3.toInt; omega)
    show g2 = cpd g0 49 36 w.toNatClampNeg
    rw [nw, g2e, hg]; exact cpd_s g0 (by decide) v3.toNatClampNeg
set_option maxHeartbeats 4000000 in
theorem uX12_copies_50_43 (fu : Nat) (hfu : 1180591620717411303424 ≤ fu) (g0 : Nat → Nat → Int32) (L0 : Nat → Nat → Int64) : Ex (fX12_copies_50_43 fu g0 L0) (fun (r : Unit) g1 L1 => g1 = cpd g0 50 43 16) := by
  unfold fX12_copies_50_43 fX12_copies_50_43_l2
  have e0 : (0 : Int32).toInt = 0 := by decide
  refine Ex.loop (α := Int32 × (Nat → Nat → Int32) × (Nat → Nat → Int64)) (fun v => (0 ≤ v.1.toInt ∧ v.1.toInt ≤ 16) ∧ v.2.1 = cpd g0 50 43 v.1.toNatClampNeg) (fun v => 17 - v.1.toInt) (by omega) (by show 17 - (0 : Int32).toInt < (fu : Int); omega) ⟨(show 0 ≤ (0 : Int32).toInt ∧ (0 : Int32).toInt ≤ 16 from by omega), (cpd_0 g0 50 43).symm⟩ (fun k2 v hv ih => ?_)
  obtain ⟨v3, g, L⟩ := v
  obtain ⟨hb, hg⟩ := hv
  have hb : 0 ≤ v3.toInt ∧ v3.toInt ≤ 16 := hb
  have hg : g = cpd g0 50 43 v3.toNatClampNeg := hg
  show Ex (fX12_copies_50_43_s2 fu k2 v3 g L) _
  unfold fX12_copies_50_43_s2
  refine Ex.ite (fun c => ?_) (fun c => ?_)
  · have c := icc_le (m := 16) (n := v3.toInt) (by decide) rfl c
    have n12 : v3.toNatClampNeg = 16 := by rw [nc]; omega
    rw [n12] at hg
    exact Ex.ret hg
  · have c := icc_nle (m := 16) (n := v3.toInt) (by decide) rfl c
    refine Ex.ck (by omega) (by omega) (Ex.ck (by omega) (by omega) ?_)
    refine Ex.sti z_none (fun g2 g2e _ => ?_)
    generalize hw : v3 + 1 = w
    have ew : w.toInt = v3.toInt + 1 := by rw [← hw]; exact ic_addc rfl (by decide) (by omega) (by omega)
    have nw : w.toNatClampNeg = v3.toNatClampNeg + 1 := by rw [nc, nc]; omega
    refine ih (w, g2, L) ⟨(show 0 ≤ w.toInt ∧ w.toInt ≤ 16 from by omega), ?_⟩ (by show 17 - w.toInt < 17 - v3.toInt; omega) (by show 0 < 17 - v3.toInt; omega)
    show g2 = cpd g0 50 43 w.toNatClampNeg
    rw [nw, g2e, hg]; exact cpd_s g0 (by decide) v3.toNatClampNeg
set_option maxHeartbeats 4000000 in
theorem sX12_see (fu : Nat) (hfu : 1180591620717411303424 ≤ fu) (p1 p2 : Int32) (g0 : Nat → Nat → Int32) (L0 : Nat → Nat → Int64) (hI : zI MT g0) (hJ : mJ g0) : Ex (fX12_see fu p1 p2 g0 L0) (fun (r : Int32) g1 L1 => MQ1 g0 g1) := by
  unfold fX12_see
  refine Ex.sti (hI.updN rfl) (fun g1 g1e hI => ?_)
  have hJ : mJ g1 := by rw [g1e]; exact hJ.upd rfl
  have a1 : g1 0 18 = g0 0 18 := by rw [g1e]; rfl
  have a2 : g1 0 2 = g0 0 2 := by rw [g1e]; rfl
  refine Ex.cb (sX12_isLesson fu hfu p1 g1 L0 hI hJ) (fun x2 g3 L4 hq => ?_)
  obtain ⟨hI, hJ, b1, b2, rb, ip⟩ := hq
  have P35 : ∀ (g : Nat → Nat → Int32) (L : Nat → Nat → Int64), zI MT g → mJ g → g 0 18 = g0 0 18 → g 0 2 = g0 0 2 → Ex (fX12_see_p35 fu g L) (fun (r : Int32) g1 L1 => MQ1 g0 g1) := by
    intro g L hI hJ h1 h2
    unfold fX12_see_p35
    refine Ex.cb (sX12_refuses fu hfu 2 g L hI hJ (by decide)) (fun x g' L' hq => ?_)
    exact Ex.ret ⟨hq.1, hq.2.1, hq.2.2.1.trans h1, hq.2.2.2.1.trans h2⟩
  refine Ex.ite (fun c => Ex.ret ⟨hI, hJ, b1.trans a1, b2.trans a2⟩) (fun c => ?_)
  have c := icc_neq (m := x2.toInt) (n := 0) rfl (by decide) c
  have hp := ip (by omega)
  refine Ex.ite (fun c8 => P35 g3 L4 hI hJ (b1.trans a1) (b2.trans a2)) (fun c8 => ?_)
  have c8 := icc_neq (m := (g3 0 73).toInt) (n := 8) rfl (by decide) c8
  refine Ex.cb (sX12_within fu hfu p2 0 999 g3 L4 hI hJ) (fun x12 g13 L14 hq => ?_)
  obtain ⟨hI, hJ, -, -, d3, d1, d2, -, -⟩ := hq
  have f1 : g13 0 18 = g0 0 18 := d1.trans (b1.trans a1)
  have f2 : g13 0 2 = g0 0 2 := d2.trans (b2.trans a2)
  refine Ex.ite (fun c12 => P35 g13 L14 hI hJ f1 f2) (fun c12 => ?_)
  have h73 := hI 0 73 0 8 rfl
  have d3' : (g13 0 73).toInt = (g3 0 73).toInt := congrArg Int32.toInt d3
  generalize hz : 2 * (g13 0 73) = z
  have ez : z.toInt = 2 * (g13 0 73).toInt := by rw [← hz]; exact ic_mulc (by decide) rfl (by omega) (by omega)
  refine Ex.ck (by omega) (by omega) ?_
  refine Ex.sti (hI.updN rfl) (fun g17 g17e hI => ?_)
  have e1 : g17 0 73 = g13 0 73 := by rw [g17e]; rfl
  rw [e1, hz]
  generalize hy : z + 1 = y
  have ey : y.toInt = z.toInt + 1 := by rw [← hy]; exact ic_addc rfl (by decide) (by omega) (by omega)
  refine Ex.ck (by omega) (by omega) ?_
  refine Ex.sti (hI.updN rfl) (fun g18 g18e hI => ?_)
  have e2 : g18 0 73 = g13 0 73 := by rw [g18e, g17e]; rfl
  rw [e2]
  generalize hw : (g13 0 73) + 1 = w
  have ew : w.toInt = (g13 0 73).toInt + 1 := by rw [← hw]; exact ic_addc rfl (by decide) (by omega) (by omega)
  refine Ex.sti (hI.upd (lo := 0) (hi := 8) rfl (by omega) (by omega)) (fun g19 g19e hI => ?_)
  have o : ∀ k, k ≠ 43 → k ≠ 0 → g19 k = g13 k := fun k hk h0 => by rw [g19e, g18e, g17e]; funext j; rw [upd2_nk h0, upd2_nk hk, upd2_nk hk]
  have o0 : ∀ j, j ≠ 73 → g19 0 j = g13 0 j := fun j hj => by rw [g19e, upd2_nj hj, g18e, g17e]; rfl
  have q1 : g19 0 73 = w := by rw [g19e]; exact upd2_at
  have q2 : g19 43 = g18 43 := by rw [g19e]; rfl
  obtain ⟨j1, j2, j3, j4, j5, j6⟩ := hJ
  refine Ex.ret ⟨hI, ?_, (o0 18 (by decide)).trans f1, (o0 2 (by decide)).trans f2⟩
  unfold mJ
  refine ⟨?_, ?_, ?_, ?_, ?_, ?_⟩
  · rw [o0 1 (by decide), o 5 (by decide) (by decide), o 6 (by decide) (by decide), o 8 (by decide) (by decide)]; exact j1
  · rw [o0 52 (by decide), o0 2 (by decide)]; exact j2
  · rw [o0 2 (by decide), o0 62 (by decide), o 36 (by decide) (by decide)]; exact j3
  · rw [q1, q2]
    intro k hk
    by_cases hka : (k : Int) < (g13 0 73).toInt
    · have u1 : g18 43 (2 * k) = g13 43 (2 * k) := by rw [g18e, upd2_nj (by rw [nc]; omega), g17e, upd2_nj (by rw [nc]; omega)]
      rw [u1]; exact j4 k hka
    · have n1 : z.toNatClampNeg = 2 * k := toNat_eq (by omega)
      have n2 : y.toNatClampNeg = 2 * k + 1 := toNat_eq (by omega)
      have u1 : g18 43 (2 * k) = p1 := by rw [g18e, upd2_nj (by rw [n2]; omega), g17e, n1, upd2_at]
      rw [u1]; exact hp
  · rw [o0 2 (by decide), o 10 (by decide) (by decide), o 11 (by decide) (by decide)]; exact j5
  · rw [o0 2 (by decide), o0 81 (by decide), o0 82 (by decide), o0 83 (by decide), o0 84 (by decide), o 49 (by decide) (by decide), o 50 (by decide) (by decide)]; exact j6
theorem mAct.cp {r n n' : Int32} {a b : Nat → Int32} (h : mAct r n a) (hn : n' = n) (h40 : n.toInt ≤ 40) (e : ∀ j, j < 80 → b j = a j) : mAct r n' b := by
  subst hn
  intro k hk
  rw [e (2 * k) (by omega), e (2 * k + 1) (by omega)]
  exact h k hk
theorem mSee.cp {n n' : Int32} {a b : Nat → Int32} (h : mSee n a) (hn : n' = n) (h8 : n.toInt ≤ 8) (e : ∀ j, j < 16 → b j = a j) : mSee n' b := by
  subst hn
  intro k hk
  rw [e (2 * k) (by omega)]
  exact h k hk
set_option maxHeartbeats 4000000 in
theorem sX12_image (fu : Nat) (hfu : 1180591620717411303424 ≤ fu) (g0 : Nat → Nat → Int32) (L0 : Nat → Nat → Int64) (hI : zI MT g0) (hJ : mJ g0) : Ex (fX12_image fu g0 L0) (fun (r : Unit) g1 L1 => MQ1 g0 g1) := by
  have h62 := hI 0 62 0 40 rfl
  have h73 := hI 0 73 0 8 rfl
  have h52 := hI 0 52 (-1) 3 rfl
  unfold fX12_image
  refine Ex.sti (hI.updN rfl) (fun g1 g1e hI => ?_)
  refine Ex.sti (hI.upd (lo := 0) (hi := 1) rfl (by decide) (by decide)) (fun g2 g2e hI => ?_)
  have r52 : g2 0 52 = g0 0 52 := by rw [g2e, g1e]; rfl
  rw [r52]
  refine Ex.sti (hI.upd (lo := -1) (hi := 3) rfl h52.1 h52.2) (fun g3 g3e hI => ?_)
  have r62 : g3 0 62 = g0 0 62 := by rw [g3e, g2e, g1e]; rfl
  rw [r62]
  refine Ex.sti (hI.upd (lo := 0) (hi := 40) rfl h62.1 h62.2) (fun g4 g4e hI => ?_)
  have r73 : g4 0 73 = g0 0 73 := by rw [g4e, g3e, g2e, g1e]; rfl
  rw [r73]
  refine Ex.sti (hI.upd (lo := 0) (hi := 8) rfl h73.1 h73.2) (fun g5 g5e hI => ?_)
  have s0 : ∀ k, k ≠ 0 → g5 k = g0 k := fun k hk => by rw [g5e, g4e, g3e, g2e, g1e]; funext j; rw [upd2_nk hk, upd2_nk hk, upd2_nk hk, upd2_nk hk, upd2_nk hk]
  have s1 : ∀ j, j ≠ 0 → j ≠ 81 → j ≠ 82 → j ≠ 83 → j ≠ 84 → g5 0 j = g0 0 j := fun j a b c d e => by rw [g5e, upd2_nj e, g4e, upd2_nj d, g3e, upd2_nj c, g2e, upd2_nj b, g1e, upd2_nj a]
  have t82 : g5 0 82 = g0 0 52 := by rw [g5e, g4e, g3e]; rfl
  have t83 : g5 0 83 = g0 0 62 := by rw [g5e, g4e]; rfl
  have t84 : g5 0 84 = g0 0 73 := by rw [g5e]; rfl
  refine Ex.cb (uX12_copies_12_48 fu hfu g5 L0) (fun _ g7 L8 g7e => ?_)
  have hI7 : zI MT g7 := by rw [g7e]; exact zI_cpd hI (fun _ _ => Or.inr rfl)
  refine Ex.cb (uX12_copies_36_49 fu hfu g7 L8) (fun _ g11 L12 g11e => ?_)
  have hI11 : zI MT g11 := by rw [g11e]; exact zI_cpd hI7 (fun _ _ => Or.inr rfl)
  refine Ex.cb (uX12_copies_43_50 fu hfu g11 L12) (fun _ g15 L16 g15e => ?_)
  have hI15 : zI MT g15 := by rw [g15e]; exact zI_cpd hI11 (fun _ _ => Or.inr rfl)
  have w : ∀ k, k ≠ 48 → k ≠ 49 → k ≠ 50 → g15 k = g5 k := fun k a b c => by rw [g15e, cpd_ne c, g11e, cpd_ne b, g7e, cpd_ne a]
  have w0 : g15 0 = g5 0 := w 0 (by decide) (by decide) (by decide)
  obtain ⟨j1, j2, j3, j4, j5, j6⟩ := hJ
  refine Ex.ret ⟨hI15, ?_, by rw [w0]; exact s1 18 (by decide) (by decide) (by decide) (by decide) (by decide), by rw [w0]; exact s1 2 (by decide) (by decide) (by decide) (by decide) (by decide)⟩
  have v2 : g15 0 2 = g0 0 2 := by rw [w0]; exact s1 2 (by decide) (by decide) (by decide) (by decide) (by decide)
  have vv : ∀ k, k ≠ 48 → k ≠ 49 → k ≠ 50 → k ≠ 0 → g15 k = g0 k := fun k a b c d => (w k a b c).trans (s0 k d)
  unfold mJ
  rw [v2]
  refine ⟨?_, ?_, ?_, ?_, ?_, fun _ => ⟨?_, ?_, ?_⟩⟩
  · rw [w0, s1 1 (by decide) (by decide) (by decide) (by decide) (by decide), vv 5 (by decide) (by decide) (by decide) (by decide), vv 6 (by decide) (by decide) (by decide) (by decide), vv 8 (by decide) (by decide) (by decide) (by decide)]; exact j1
  · rw [w0, s1 52 (by decide) (by decide) (by decide) (by decide) (by decide)]; exact j2
  · rw [w0, s1 62 (by decide) (by decide) (by decide) (by decide) (by decide), vv 36 (by decide) (by decide) (by decide) (by decide)]; exact j3
  · rw [w0, s1 73 (by decide) (by decide) (by decide) (by decide) (by decide), vv 43 (by decide) (by decide) (by decide) (by decide)]; exact j4
  · rw [vv 10 (by decide) (by decide) (by decide) (by decide), vv 11 (by decide) (by decide) (by decide) (by decide)]; exact j5
  · rw [w0, t82]; exact j2
  · refine j3.cp (by rw [w0]; exact t83) h62.2 (fun j hj => ?_)
    rw [g15e, cpd_ne (by decide), g11e, cpd_at hj, g7e, cpd_ne (by decide), s0 36 (by decide)]
  · refine j4.cp (by rw [w0]; exact t84) h73.2 (fun j hj => ?_)
    rw [g15e, cpd_at hj, g11e, cpd_ne (by decide), g7e, cpd_ne (by decide), s0 43 (by decide)]
set_option maxHeartbeats 4000000 in
theorem sX12_restore (fu : Nat) (hfu : 1180591620717411303424 ≤ fu) (g0 : Nat → Nat → Int32) (L0 : Nat → Nat → Int64) (hI : zI MT g0) (hJ : mJ g0) : Ex (fX12_restore fu g0 L0) (fun (r : Int32) g1 L1 => MQ1 g0 g1) := by
  have h62 := hI 0 83 0 40 rfl
  have h73 := hI 0 84 0 8 rfl
  have h52 := hI 0 82 (-1) 3 rfl
  unfold fX12_restore
  refine Ex.sti (hI.updN rfl) (fun g1 g1e hI => ?_)
  have hJ1 : mJ g1 := by rw [g1e]; exact hJ.upd rfl
  have q0 : ∀ j, j ≠ 0 → g1 0 j = g0 0 j := fun j hj => by rw [g1e, upd2_nj hj]
  refine Ex.ite (fun c => Ex.ckb rfl (Ex.ret ⟨hI, hJ1, q0 18 (by decide), q0 2 (by decide)⟩)) (fun c => ?_)
  have c := icc_neq (m := (g1 0 81).toInt) (n := 0) rfl (by decide) c
  rw [q0 81 (by decide)] at c
  rw [q0 82 (by decide)]
  refine Ex.sti (hI.upd (lo := -1) (hi := 3) rfl h52.1 h52.2) (fun g3 g3e hI => ?_)
  have r83 : g3 0 83 = g0 0 83 := by rw [g3e, g1e]; rfl
  rw [r83]
  refine Ex.sti (hI.upd (lo := 0) (hi := 40) rfl h62.1 h62.2) (fun g4 g4e hI => ?_)
  have r84 : g4 0 84 = g0 0 84 := by rw [g4e, g3e, g1e]; rfl
  rw [r84]
  refine Ex.sti (hI.upd (lo := 0) (hi := 8) rfl h73.1 h73.2) (fun g5 g5e hI => ?_)
  have s0 : ∀ k, k ≠ 0 → g5 k = g0 k := fun k hk => by rw [g5e, g4e, g3e, g1e]; funext j; rw [upd2_nk hk, upd2_nk hk, upd2_nk hk, upd2_nk hk]
  have s1 : ∀ j, j ≠ 0 → j ≠ 52 → j ≠ 62 → j ≠ 73 → g5 0 j = g0 0 j := fun j a b c d => by rw [g5e, upd2_nj d, g4e, upd2_nj c, g3e, upd2_nj b, g1e, upd2_nj a]
  have t52 : g5 0 52 = g0 0 82 := by rw [g5e, g4e, g3e]; rfl
  have t62 : g5 0 62 = g0 0 83 := by rw [g5e, g4e]; rfl
  have t73 : g5 0 73 = g0 0 84 := by rw [g5e]; rfl
  refine Ex.cb (uX12_copies_48_12 fu hfu g5 L0) (fun _ g7 L8 g7e => ?_)
  have hI7 : zI MT g7 := by rw [g7e]; exact zI_cpd hI (fun _ _ => Or.inr rfl)
  refine Ex.cb (uX12_copies_49_36 fu hfu g7 L8) (fun _ g11 L12 g11e => ?_)
  have hI11 : zI MT g11 := by rw [g11e]; exact zI_cpd hI7 (fun _ _ => Or.inr rfl)
  refine Ex.cb (uX12_copies_50_43 fu hfu g11 L12) (fun _ g15 L16 g15e => ?_)
  have hI15 : zI MT g15 := by rw [g15e]; exact zI_cpd hI11 (fun _ _ => Or.inr rfl)
  have w : ∀ k, k ≠ 12 → k ≠ 36 → k ≠ 43 → g15 k = g5 k := fun k a b c => by rw [g15e, cpd_ne c, g11e, cpd_ne b, g7e, cpd_ne a]
  have w0 : g15 0 = g5 0 := w 0 (by decide) (by decide) (by decide)
  obtain ⟨j1, j2, j3, j4, j5, j6⟩ := hJ
  obtain ⟨i1, i2, i3⟩ := j6 c
  have v2 : g15 0 2 = g0 0 2 := by rw [w0]; exact s1 2 (by decide) (by decide) (by decide) (by decide)
  have vv : ∀ k, k ≠ 12 → k ≠ 36 → k ≠ 43 → k ≠ 0 → g15 k = g0 k := fun k a b c d => (w k a b c).trans (s0 k d)
  refine Ex.ckb rfl (Ex.ret ⟨hI15, ?_, by rw [w0]; exact s1 18 (by decide) (by decide) (by decide) (by decide), v2⟩)
  unfold mJ
  rw [v2]
  refine ⟨?_, ?_, ?_, ?_, ?_, fun _ => ⟨?_, ?_, ?_⟩⟩
  · rw [w0, s1 1 (by decide) (by decide) (by decide) (by decide), vv 5 (by decide) (by decide) (by decide) (by decide), vv 6 (by decide) (by decide) (by decide) (by decide), vv 8 (by decide) (by decide) (by decide) (by decide)]; exact j1
  · rw [w0, t52]; exact i1
  · refine i2.cp (by rw [w0]; exact t62) h62.2 (fun j hj => ?_)
    rw [g15e, cpd_ne (by decide), g11e, cpd_at hj, g7e, cpd_ne (by decide), s0 49 (by decide)]
  · refine i3.cp (by rw [w0]; exact t73) h73.2 (fun j hj => ?_)
    rw [g15e, cpd_at hj, g11e, cpd_ne (by decide), g7e, cpd_ne (by decide), s0 50 (by decide)]
  · rw [vv 10 (by decide) (by decide) (by decide) (by decide), vv 11 (by decide) (by decide) (by decide) (by decide)]; exact j5
  · rw [w0, s1 82 (by decide) (by decide) (by decide) (by decide)]; exact i1
  · rw [w0, s1 83 (by decide) (by decide) (by decide) (by decide), vv 49 (by decide) (by decide) (by decide) (by decide)]; exact i2
  · rw [w0, s1 84 (by decide) (by decide) (by decide) (by decide), vv 50 (by decide) (by decide) (by decide) (by decide)]; exact i3
end
