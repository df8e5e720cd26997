/-! ===== the reference: keeping, seeing, tens, portions ===== -/
section MH
abbrev MQ1 (g0 : Nat → Nat → Int32) (g1 : Nat → Nat → Int32) : Prop := zI MT g1 ∧ mJ g1 ∧ g1 0 18 = g0 0 18 ∧ g1 0 2 = g0 0 2
theorem toNat_eq {x : Int32} {n : Nat} (h : x.toInt = (n : Int)) : x.toNatClampNeg = n := by rw [nc]; omega
set_option maxHeartbeats 4000000 in
theorem sX12_keeps_p47 (fu : Nat) (v1 v2 : Int32) (g : Nat → Nat → Int32) (L : Nat → Nat → Int64) (hI : zI MT g) (ha : 0 ≤ (g 0 62).toInt ∧ (g 0 62).toInt ≤ 39) (hl : mLes (g 0 1) (g 5) (g 6) (g 8)) (hf : (g 0 52).toInt < (g 0 2).toInt) (hA : mAct (g 0 2) (g 0 62) (g 36)) (hs : mSee (g 0 73) (g 43) ∧ mCod (g 0 2) (g 10) (g 11) ∧ ((g 0 81).toInt ≠ 0 → (g 0 82).toInt < (g 0 2).toInt ∧ mAct (g 0 2) (g 0 83) (g 49) ∧ mSee (g 0 84) (g 50))) (h1 : 0 ≤ v1.toInt ∧ v1.toInt ≤ 48) (h2 : v1.toInt = 48 → -1 ≤ v2.toInt ∧ v2.toInt < (g 0 2).toInt) : Ex (fX12_keeps_p47 fu v1 v2 g L) (fun (r : Unit) g1 L1 => MQ1 g g1) := by
  unfold fX12_keeps_p47
  generalize hz : 2 * (g 0 62) = z
  have ez : z.toInt = 2 * (g 0 62).toInt := by rw [← hz]; exact ic_mulc (by decide) rfl (by omega) (by omega)
  refine Ex.ck (by omega) (by omega) ?_
  refine Ex.sti (hI.updN rfl) (fun g1 g1e hI => ?_)
  have e1 : g1 0 62 = g 0 62 := by rw [g1e]; rfl
  rw [e1, hz]
  generalize hy : z + 1 = y
  have ey : y.toInt = z.toInt + 1 := by rw [← hy]; exact ic_addc rfl (by decide) (by omega) (by omega)
  refine Ex.ck (by omega) (by omega) ?_
  refine Ex.sti (hI.updN rfl) (fun g2 g2e hI => ?_)
  have e2 : g2 0 62 = g 0 62 := by rw [g2e, g1e]; rfl
  rw [e2]
  generalize hw : (g 0 62) + 1 = w
  have ew : w.toInt = (g 0 62).toInt + 1 := by rw [← hw]; exact ic_addc rfl (by decide) (by omega) (by omega)
  refine Ex.sti (hI.upd (lo := 0) (hi := 40) rfl (by omega) (by omega)) (fun g3 g3e hI => ?_)
  have o : ∀ k, k ≠ 36 → k ≠ 0 → g3 k = g k := fun k hk h0 => by rw [g3e, g2e, g1e]; funext j; rw [upd2_nk h0, upd2_nk hk, upd2_nk hk]
  have o0 : ∀ j, j ≠ 62 → g3 0 j = g 0 j := fun j hj => by rw [g3e, upd2_nj hj, g2e, g1e]; rfl
  have hA3 : mAct (g3 0 2) (g3 0 62) (g3 36) := by
    have q1 : g3 0 62 = w := by rw [g3e]; exact upd2_at
    have q2 : g3 36 = g2 36 := by rw [g3e]; rfl
    rw [o0 2 (by decide), q1, q2]
    intro k hk
    by_cases hka : (k : Int) < (g 0 62).toInt
    · have u1 : g2 36 (2 * k) = g 36 (2 * k) := by rw [g2e, upd2_nj (by rw [nc]; omega), g1e, upd2_nj (by rw [nc]; omega)]
      have u2 : g2 36 (2 * k + 1) = g 36 (2 * k + 1) := by rw [g2e, upd2_nj (by rw [nc]; omega), g1e, upd2_nj (by rw [nc]; omega)]
      rw [u1, u2]; exact hA k hka
    · have n1 : z.toNatClampNeg = 2 * k := toNat_eq (by omega)
      have n2 : y.toNatClampNeg = 2 * k + 1 := toNat_eq (by omega)
      have u1 : g2 36 (2 * k) = v1 := by rw [g2e, upd2_nj (by rw [n2]; omega), g1e, n1, upd2_at]
      have u2 : g2 36 (2 * k + 1) = v2 := by rw [g2e, n2, upd2_at]
      rw [u1, u2]; exact ⟨h1.1, h1.2, h2⟩
  refine Ex.ret ⟨hI, ?_, o0 18 (by decide), o0 2 (by decide)⟩
  unfold mJ
  refine ⟨?_, ?_, hA3, ?_⟩
  · rw [o0 1 (by decide), o 5 (by decide) (by decide), o 6 (by decide) (by decide), o 8 (by decide) (by decide)]; exact hl
  · rw [o0 52 (by decide), o0 2 (by decide)]; exact hf
  · rw [o0 73 (by decide), o0 2 (by decide), o0 81 (by decide), o0 82 (by decide), o0 83 (by decide), o0 84 (by decide), o 43 (by decide) (by decide), o 10 (by decide) (by decide), o 11 (by decide) (by decide), o 49 (by decide) (by decide), o 50 (by decide) (by decide)]; exact hs
set_option maxHeartbeats 4000000 in
theorem sX12_keeps (fu : Nat) (hfu : 1180591620717411303424 ≤ fu) (p1 p2 : Int32) (g0 : Nat → Nat → Int32) (L0 : Nat → Nat → Int64) (hI : zI MT g0) (hJ : mJ g0) (h1 : 0 ≤ p1.toInt ∧ p1.toInt ≤ 48) (h2 : p1.toInt = 48 → -1 ≤ p2.toInt ∧ p2.toInt < (g0 0 2).toInt) : Ex (fX12_keeps fu p1 p2 g0 L0) (fun (r : Unit) g1 L1 => MQ1 g0 g1) := by
  have ha := hI 0 62 0 40 rfl
  unfold fX12_keeps
  refine Ex.ite (fun c => ?_) (fun c => ?_)
  · have c := icc_eq (m := (g0 0 62).toInt) (n := 40) rfl (by decide) c
    unfold fX12_keeps_l11
    have e2c : (2 : Int32).toInt = 2 := by decide
    refine Ex.loop (α := Int32 × (Nat → Nat → Int32) × (Nat → Nat → Int64)) (fun v => (2 ≤ v.1.toInt ∧ v.1.toInt ≤ 80) ∧ zI MT v.2.1 ∧ (∀ k, k ≠ 36 → v.2.1 k = g0 k) ∧ (∀ j : Nat, (j : Int) + 2 < v.1.toInt → v.2.1 36 j = g0 36 (j + 2)) ∧ (∀ j : Nat, v.1.toInt ≤ (j : Int) + 2 → v.2.1 36 j = g0 36 j)) (fun v => 81 - v.1.toInt) (by omega) (by show 81 - (2 : Int32).toInt < (fu : Int); omega) ⟨(show 2 ≤ (2 : Int32).toInt ∧ (2 : Int32).toInt ≤ 80 from by omega), hI, fun _ _ => rfl, fun j hj => absurd (show (j : Int) + 2 < (2 : Int32).toInt from hj) (by omega), fun _ _ => rfl⟩ (fun k11 v hv ih => ?_)
    obtain ⟨v3, g, L⟩ := v
    obtain ⟨hv3, hI, ho, hlo, hhi⟩ := hv
    have hv3 : 2 ≤ v3.toInt ∧ v3.toInt ≤ 80 := hv3
    have hI : zI MT g := hI
    have ho : ∀ k, k ≠ 36 → g k = g0 k := ho
    have hlo : ∀ j : Nat, (j : Int) + 2 < v3.toInt → g 36 j = g0 36 (j + 2) := hlo
    have hhi : ∀ j : Nat, v3.toInt ≤ (j : Int) + 2 → g 36 j = g0 36 j := hhi
    have o0 : g 0 = g0 0 := ho 0 (by decide)
    show Ex (fX12_keeps_s11 fu p1 p2 k11 v3 g L) _
    unfold fX12_keeps_s11
    refine Ex.ite (fun c3 => ?_) (fun c3 => ?_)
    · have c3 := icc_le (m := 80) (n := v3.toInt) (by decide) rfl c3
      rw [o0]
      generalize hw : (g0 0 62) - 1 = w
      have ew : w.toInt = (g0 0 62).toInt - 1 := by rw [← hw]; exact ic_subc rfl (by decide) (by omega) (by omega)
      refine Ex.sti (hI.upd (lo := 0) (hi := 40) rfl (by omega) (by omega)) (fun g6 g6e hI => ?_)
      have q0 : ∀ j, j ≠ 62 → g6 0 j = g0 0 j := fun j hj => by rw [g6e, upd2_nj hj, o0]
      have q62 : g6 0 62 = w := by rw [g6e]; exact upd2_at
      have qk : ∀ k, k ≠ 36 → k ≠ 0 → g6 k = g0 k := fun k hk h0 => by rw [g6e]; funext j; rw [upd2_nk h0, ho k hk]
      have q36 : g6 36 = g 36 := by rw [g6e]; rfl
      obtain ⟨j1, j2, j3, j4⟩ := hJ
      refine Ex.mono (sX12_keeps_p47 fu p1 p2 g6 L hI (by rw [q62]; omega) ?_ ?_ ?_ ?_ h1 (by rw [q0 2 (by decide)]; exact h2)) (fun r g1 L1 h => ?_)
      · rw [q0 1 (by decide), qk 5 (by decide) (by decide), qk 6 (by decide) (by decide), qk 8 (by decide) (by decide)]; exact j1
      · rw [q0 52 (by decide), q0 2 (by decide)]; exact j2
      · rw [q0 2 (by decide), q62, q36]
        intro k hk
        have := j3 (k + 1) (by omega)
        rw [hlo (2 * k) (by omega), hlo (2 * k + 1) (by omega)]
        exact this
      · rw [q0 73 (by decide), q0 2 (by decide), q0 81 (by decide), q0 82 (by decide), q0 83 (by decide), q0 84 (by decide), qk 43 (by decide) (by decide), qk 10 (by decide) (by decide), qk 11 (by decide) (by decide), qk 49 (by decide) (by decide), qk 50 (by decide) (by decide)]; exact j4
      · exact ⟨h.1, h.2.1, h.2.2.1.trans (q0 18 (by decide)), h.2.2.2.trans (q0 2 (by decide))⟩
    · have c3 := icc_nle (m := 80) (n := v3.toInt) (by decide) rfl c3
      refine Ex.ck (by omega) (by omega) ?_
      generalize hz : v3 - 2 = z
      have ez : z.toInt = v3.toInt - 2 := by rw [← hz]; exact ic_subc rfl (by decide) (by omega) (by omega)
      refine Ex.ck (by omega) (by omega) ?_
      refine Ex.sti (hI.updN rfl) (fun g7 g7e hI => ?_)
      generalize hy : v3 + 1 = y
      have ey : y.toInt = v3.toInt + 1 := by rw [← hy]; exact ic_addc rfl (by decide) (by omega) (by omega)
      refine ih (y, g7, L) ⟨(show 2 ≤ y.toInt ∧ y.toInt ≤ 80 from by omega), hI, fun k hk => ?_, fun j hj => ?_, fun j hj => ?_⟩ (by show 81 - y.toInt < 81 - v3.toInt; omega) (by show 0 < 81 - v3.toInt; omega)
      · show g7 k = g0 k
        rw [g7e]; funext j; rw [upd2_nk hk, ho k hk]
      · have hj : (j : Int) + 2 < y.toInt := hj
        show g7 36 j = g0 36 (j + 2)
        by_cases h : (j : Int) + 2 < v3.toInt
        · rw [g7e, upd2_nj (by rw [nc]; omega)]; exact hlo j h
        · have n1 : z.toNatClampNeg = j := toNat_eq (by omega)
          have n2 : v3.toNatClampNeg = j + 2 := toNat_eq (by omega)
          rw [g7e, n1, upd2_at, n2]; exact hhi (j + 2) (by omega)
      · have hj : y.toInt ≤ (j : Int) + 2 := hj
        show g7 36 j = g0 36 j
        rw [g7e, upd2_nj (by rw [nc]; omega)]; exact hhi j (by omega)
  · have c := icc_neq (m := (g0 0 62).toInt) (n := 40) rfl (by decide) c
    exact sX12_keeps_p47 fu p1 p2 g0 L0 hI (by omega) hJ.1 hJ.2.1 hJ.2.2.1 hJ.2.2.2 h1 h2
set_option maxHeartbeats 4000000 in
theorem sX12_undo (fu : Nat) (hfu : 1180591620717411303424 ≤ fu) (g0 : Nat → Nat → Int32) (L0 : Nat → Nat → Int64) (hI : zI MT g0) (hJ : mJ g0) : Ex (fX12_undo fu g0 L0) (fun (r : Int32) g1 L1 => MQ1 g0 g1) := by
  have ha := hI 0 62 0 40 rfl
  unfold fX12_undo
  refine Ex.sti (hI.updN rfl) (fun g1 g1e hI => ?_)
  have hJ1 : mJ g1 := by rw [g1e]; exact hJ.upd rfl
  have q0 : ∀ j, j ≠ 0 → g1 0 j = g0 0 j := fun j hj => by rw [g1e, upd2_nj hj]
  have e62 : g1 0 62 = g0 0 62 := q0 62 (by decide)
  refine Ex.ite (fun c => Ex.ret ⟨hI, hJ1, q0 18 (by decide), q0 2 (by decide)⟩) (fun c => ?_)
  have c := icc_neq (m := (g1 0 62).toInt) (n := 0) rfl (by decide) c
  rw [e62] at c ⊢
  generalize hw : (g0 0 62) - 1 = w
  have ew : w.toInt = (g0 0 62).toInt - 1 := by rw [← hw]; exact ic_subc rfl (by decide) (by omega) (by omega)
  refine Ex.sti (hI.upd (lo := 0) (hi := 40) rfl (by omega) (by omega)) (fun g3 g3e hI => ?_)
  have e3 : g3 0 62 = w := by rw [g3e]; exact upd2_at
  have r0 : ∀ j, j ≠ 0 → j ≠ 62 → g3 0 j = g0 0 j := fun j h1 h2 => by rw [g3e, upd2_nj h2, q0 j h1]
  have e36 : g3 36 = g1 36 := by rw [g3e]; rfl
  rw [e3]
  have hA := hJ1.2.2.1 w.toNatClampNeg (by rw [e62, nc]; omega)
  have hJ3 : mJ g3 := by
    obtain ⟨j1, j2, j3, j4⟩ := hJ1
    rw [g3e]
    exact ⟨j1, j2, fun k hk => j3 k (by have hk : (k : Int) < w.toInt := hk
                                        rw [e62]; omega), j4⟩
  generalize hz : 2 * w = z
  have ez : z.toInt = 2 * w.toInt := by rw [← hz]; exact ic_mulc (by decide) rfl (by omega) (by omega)
  have nz : z.toNatClampNeg = 2 * w.toNatClampNeg := by rw [nc, nc]; omega
  generalize hy : z + 1 = y
  have ey : y.toInt = z.toInt + 1 := by rw [← hy]; exact ic_addc rfl (by decide) (by omega) (by omega)
  have ny : y.toNatClampNeg = z.toNatClampNeg + 1 := by rw [nc, nc]; omega
  rw [← nz, ← ny, ← e36] at hA
  have e2 : g1 0 2 = g3 0 2 := by rw [g3e]; rfl
  rw [e2] at hA
  have h2 := hI 0 2 0 4 rfl
  refine Ex.ck (by omega) (by omega) ?_
  refine Ex.ite (fun c4 => ?_) (fun c4 => ?_)
  · have c4 := icc_eq (m := (g3 36 z.toNatClampNeg).toInt) (n := 48) rfl (by decide) c4
    have hB := hA.2.2 c4
    refine Ex.ck (by omega) (by omega) ?_
    refine Ex.sti (hI.upd (lo := -1) (hi := 3) rfl (by omega) (by omega)) (fun g6 g6e hI => ?_)
    unfold fX12_undo_p89
    exact Ex.ret ⟨hI, by rw [g6e]; exact hJ3.force hB.2, by rw [g6e]; exact r0 18 (by decide) (by decide), by rw [g6e]; exact r0 2 (by decide) (by decide)⟩
  · have c4 := icc_neq (m := (g3 36 z.toNatClampNeg).toInt) (n := 48) rfl (by decide) c4
    refine Ex.ck (by omega) (by omega) (Ex.ck (by omega) (by omega) (Ex.ck (by omega) (by omega) ?_))
    refine Ex.sti (hI.updN rfl) (fun g5 g5e hI => ?_)
    unfold fX12_undo_p89
    exact Ex.ret ⟨hI, by rw [g5e]; exact hJ3.upd rfl, by rw [g5e]; exact r0 18 (by decide) (by decide), by rw [g5e]; exact r0 2 (by decide) (by decide)⟩
theorem il_bm {n : Int} (h1 : -9223372036854775808 ≤ n) (h2 : n ≤ 9223372036854775807) : n.bmod (2 ^ 64) = n := by
  rw [Int.bmod_def]
  split <;> omega
theorem il_mul {x y : Int64} (h1 : -9223372036854775808 ≤ x.toInt * y.toInt) (h2 : x.toInt * y.toInt ≤ 9223372036854775807) : (x * y).toInt = x.toInt * y.toInt := by
  rw [Int64.toInt_mul]; exact il_bm h1 h2
set_option maxHeartbeats 4000000 in
theorem sX12_tens (fu : Nat) (hfu : 1180591620717411303424 ≤ fu) (g0 : Nat → Nat → Int32) (L0 : Nat → Nat → Int64) (hI : zI MT g0) (hJ : mJ g0) : Ex (fX12_tens fu g0 L0) (fun (r : Int64) g1 L1 => zI MT g1 ∧ mJ g1 ∧ g1 0 18 = g0 0 18 ∧ g1 0 2 = g0 0 2 ∧ ¬ r = 0) := by
  have hu := hI 0 70 0 8 rfl
  unfold fX12_tens fX12_tens_l4
  have e0 : (0 : Int32).toInt = 0 := by decide
  have e1 : (1 : Int64).toInt = 1 := by decide
  have e10 : (10 : Int64).toInt = 10 := by decide
  refine Ex.loop (α := Int64 × Int32 × (Nat → Nat → Int32) × (Nat → Nat → Int64)) (fun v => (0 ≤ v.2.1.toInt ∧ v.2.1.toInt ≤ 8) ∧ v.1.toInt = 10 ^ v.2.1.toInt.toNat ∧ v.2.2.1 = g0) (fun v => 9 - v.2.1.toInt) (by omega) (by show 9 - (0 : Int32).toInt < (fu : Int); omega) ⟨(show 0 ≤ (0 : Int32).toInt ∧ (0 : Int32).toInt ≤ 8 from by omega), (show (1 : Int64).toInt = 10 ^ (0 : Int32).toInt.toNat from by decide), rfl⟩ (fun k4 v hv ih => ?_)
  obtain ⟨v1, v3, g, L⟩ := v
  obtain ⟨hb, hp, hg⟩ := hv
  have hb : 0 ≤ v3.toInt ∧ v3.toInt ≤ 8 := hb
  have hp : v1.toInt = 10 ^ v3.toInt.toNat := hp
  have hg : g = g0 := hg
  subst hg
  show Ex (fX12_tens_s4 fu k4 v1 v3 g L) _
  unfold fX12_tens_s4
  refine Ex.ite (fun c => Ex.ret ⟨hI, hJ, rfl, rfl, fun h => ?_⟩) (fun c => ?_)
  · rw [h] at hp
    have : (10 : Int) ^ v3.toInt.toNat ≠ 0 := by
      have := Int.pow_pos (n := 10) (m := v3.toInt.toNat) (by decide)
      omega
    exact this (hp.symm.trans (by decide))
  · have c := icc_nle (m := (g 0 70).toInt) (n := v3.toInt) rfl rfl c
    refine Ex.ltl (fun y ye => ?_)
    generalize hw : v3 + 1 = w
    have ew : w.toInt = v3.toInt + 1 := by rw [← hw]; exact ic_addc rfl (by decide) (by omega) (by omega)
    have hpw : (10 : Int) ^ w.toInt.toNat = 10 ^ v3.toInt.toNat * 10 := by
      have : w.toInt.toNat = v3.toInt.toNat + 1 := by omega
      rw [this, Int.pow_succ]
    have hle : (10 : Int) ^ v3.toInt.toNat ≤ 10 ^ 8 := by
      have hq : v3.toInt.toNat ≤ 8 := by omega
      have h3 : (10 : Nat) ^ v3.toInt.toNat ≤ 10 ^ 8 := Nat.pow_le_pow_right (by decide) hq
      exact_mod_cast h3
    have hpos := Int.pow_pos (n := 10) (m := v3.toInt.toNat) (by decide)
    refine ih (y, w, g, L) ⟨(show 0 ≤ w.toInt ∧ w.toInt ≤ 8 from by omega), ?_, rfl⟩ (by show 9 - w.toInt < 9 - v3.toInt; omega) (by show 0 < 9 - v3.toInt; omega)
    show y.toInt = 10 ^ w.toInt.toNat
    rw [ye, il_mul (by rw [hp, e10]; omega) (by rw [hp, e10]; omega), hp, e10, hpw]
theorem il_abs (a : Int) {b : Int} (h : b ≠ 0) : (a.tmod b).natAbs < b.natAbs := by
  rw [Int.natAbs_tmod]
  exact Nat.mod_lt _ (by omega)
theorem il_rem {x y : Int64} (hy : ¬ y = 0) : (x - x / y * y).toInt = x.toInt.tmod y.toInt := by
  rw [Int64.toInt_sub, Int64.toInt_mul, Int64.toInt_div]
  have hr := Int64.le_toInt y
  have hr2 := Int64.toInt_lt y
  have h0 : y.toInt ≠ 0 := fun h => hy (Int64.toInt_inj.mp (h.trans (by decide)))
  have e : x.toInt.tmod y.toInt = x.toInt - x.toInt.tdiv y.toInt * y.toInt := by
    have := Int.tmod_add_mul_tdiv x.toInt y.toInt
    rw [Int.mul_comm] at this
    omega
  rw [Int.sub_bmod_bmod, ← Int.sub_bmod_bmod, Int.bmod_mul_bmod, Int.sub_bmod_bmod, ← e]
  have h1 := il_abs x.toInt h0
  exact il_bm (by omega) (by omega)
set_option maxHeartbeats 4000000 in
theorem sX12_portion (fu : Nat) (hfu : 1180591620717411303424 ≤ fu) (p1 p2 : Int64) (p3 : Int32) (g0 : Nat → Nat → Int32) (L0 : Nat → Nat → Int64) (hI : zI MT g0) (hJ : mJ g0) (hz : ¬ p2 = 0) : Ex (fX12_portion fu p1 p2 p3 g0 L0) (fun (r : Int64) g1 L1 => zI MT g1 ∧ mJ g1 ∧ g1 0 18 = g0 0 18 ∧ g1 0 2 = g0 0 2) := by
  have hr := Int64.le_toInt p1
  have hr2 := Int64.toInt_lt p1
  unfold fX12_portion fX12_portion_l6
  refine Ex.loop (α := Int64 × Int64 × (Nat → Nat → Int32) × (Nat → Nat → Int64)) (fun v => ¬ v.1 = 0 ∧ v.2.2.1 = g0) (fun v => (v.2.1.toInt.natAbs : Int)) (by omega) (by show (p1.toInt.natAbs : Int) < (fu : Int); omega) ⟨hz, rfl⟩ (fun k6 v hv ih => ?_)
  obtain ⟨v5, v7, g, L⟩ := v
  obtain ⟨h5, hg⟩ := hv
  have h5 : ¬ v5 = 0 := h5
  have hg : g = g0 := hg
  subst hg
  show Ex (fX12_portion_s6 fu p1 p2 p3 k6 v5 v7 g L) _
  unfold fX12_portion_s6
  refine Ex.ite (fun c => ?_) (fun c => ?_)
  · have e : ∀ t0 : Int64, Ex (fX12_portion_p41 fu v5 t0 g L) (fun (r : Int64) g1 L1 => zI MT g1 ∧ mJ g1 ∧ g1 0 18 = g 0 18 ∧ g1 0 2 = g 0 2) := fun t0 => Ex.cnzL h5 (Ex.ret ⟨hI, hJ, rfl, rfl⟩)
    exact Ex.ite (fun _ => e _) (fun _ => e _)
  · have h7 : ¬ v7 = 0 := fun h => c (by rw [h]; exact k_lcmp 0)
    have h70 : v7.toInt ≠ 0 := fun h => h7 (Int64.toInt_inj.mp (h.trans (by decide)))
    refine Ex.cnzL h7 (Ex.ltl (fun y ye => ?_))
    refine ih (v7, y, g, L) ⟨h7, rfl⟩ ?_ ?_
    · show (y.toInt.natAbs : Int) < (v7.toInt.natAbs : Int)
      rw [ye, il_rem h7]
      have := il_abs v5.toInt h70
      omega
    · show 0 < (v7.toInt.natAbs : Int)
      omega
end MH
