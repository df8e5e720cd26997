set_option maxHeartbeats 4000000 in
set_option maxRecDepth 100000 in
theorem sX3_dropFirstAct_6 (fu : Nat) (hfu : 1180591620717411303424 ≤ fu) (g0 : Nat → Nat → Int32) (L0 : Nat → Nat → Int64) (hI : zI XT g0) : Ex (fX3_dropFirstAct_6 fu g0 L0) (fun (r : Unit) (g1 : Nat → Nat → Int32) (L1 : Nat → Nat → Int64) => zI XT g1 ∧ g1 0 13 = g0 0 13 ∧ ((g1 6 9).toInt = 39)) := by
  have k0_0 : g0 0 13 = g0 0 13 := rfl
  unfold fX3_dropFirstAct_6
  refine Ex.stA (hI.cpy (fun _ _ => rfl)) (fun g1 g1e hI => ?_)
  have k0_0 : g1 0 13 = g0 0 13 := by rw [g1e]; exact k0_0
  refine Ex.stA (hI.cpy (fun _ _ => rfl)) (fun g2 g2e hI => ?_)
  have k0_0 : g2 0 13 = g0 0 13 := by rw [g2e]; exact k0_0
  refine Ex.stA (hI.cpy (fun _ _ => rfl)) (fun g3 g3e hI => ?_)
  have k0_0 : g3 0 13 = g0 0 13 := by rw [g3e]; exact k0_0
  refine Ex.sti (hI.upd rfl (by decide) (by decide)) (fun g4 g4e hI => ?_)
  have k0_0 : g4 0 13 = g0 0 13 := by rw [g4e]; exact k0_0
  have w5 : (Int32.toInt (g4 6 9)) = 39 := by rw [g4e, upd2_at]; decide
  exact Ex.ret ⟨hI, k0_0, (by show (g4 6 9).toInt = 39; omega)⟩
set_option maxHeartbeats 4000000 in
set_option maxRecDepth 100000 in
theorem sX3_keepAct_6 (fu : Nat) (hfu : 1180591620717411303424 ≤ fu) (p1 : Int32) (p2 : Int32) (p3 : Int32) (g0 : Nat → Nat → Int32) (L0 : Nat → Nat → Int64) (hI : zI XT g0) (hp2 : (0 ≤ (Int32.toInt p2) ∧ (Int32.toInt p2) ≤ 11)) : Ex (fX3_keepAct_6 fu p1 p2 p3 g0 L0) (fun (r : Unit) (g1 : Nat → Nat → Int32) (L1 : Nat → Nat → Int64) => zI XT g1 ∧ g1 0 13 = g0 0 13) := by
  have k0_0 : g0 0 13 = g0 0 13 := rfl
  unfold fX3_keepAct_6
  have b1 : 0 ≤ (Int32.toInt (g0 6 9)) ∧ (Int32.toInt (g0 6 9)) ≤ 40 := hI 6 9 0 40 rfl
  have J13 : ∀ (v1 : Int32) (v2 : Int32) (v3 : Int32) (g : Nat → Nat → Int32) (L : Nat → Nat → Int64), (0 ≤ (Int32.toInt v2) ∧ (Int32.toInt v2) ≤ 11) → (0 ≤ (Int32.toInt (g 6 9)) ∧ (Int32.toInt (g 6 9)) ≤ 39) → zI XT g → g 0 13 = g0 0 13 → Ex (fX3_keepAct_6_p13 fu v1 v2 v3 g L) (fun (r : Unit) (g1 : Nat → Nat → Int32) (L1 : Nat → Nat → Int64) => zI XT g1 ∧ g1 0 13 = g0 0 13) := by
    intro v1 v2 v3 g L hb_v2 hw_6_9 hI k0_0
    unfold fX3_keepAct_6_p13
    refine Ex.ck (by omega) (by omega) ?_
    refine Ex.sti (hI.updN rfl) (fun g2 g2e hI => ?_)
    have w3 : (Int32.toInt (g2 6 9)) = (Int32.toInt (g 6 9)) := by rw [g2e]; rfl
    have k0_0 : g2 0 13 = g0 0 13 := by rw [g2e]; exact k0_0
    refine Ex.ck (by omega) (by omega) ?_
    refine Ex.sti (hI.upd rfl (by omega) (by omega)) (fun g4 g4e hI => ?_)
    have w5 : (Int32.toInt (g4 6 9)) = (Int32.toInt (g2 6 9)) := by rw [g4e]; rfl
    have k0_0 : g4 0 13 = g0 0 13 := by rw [g4e]; exact k0_0
    refine Ex.ck (by omega) (by omega) ?_
    refine Ex.sti (hI.updN rfl) (fun g6 g6e hI => ?_)
    have w7 : (Int32.toInt (g6 6 9)) = (Int32.toInt (g4 6 9)) := by rw [g6e]; rfl
    have k0_0 : g6 0 13 = g0 0 13 := by rw [g6e]; exact k0_0
    generalize z8q : ((g6 6 9) + 1) = z8
    have e9 : (Int32.toInt z8) = (Int32.toInt (g6 6 9)) + 1 := by rw [← z8q]; exact ic_addc rfl (by decide) (by omega) (by omega)
    refine Ex.sti (hI.upd rfl (by omega) (by omega)) (fun g10 g10e hI => ?_)
    have k0_0 : g10 0 13 = g0 0 13 := by rw [g10e]; exact k0_0
    have w11 : (Int32.toInt (g10 6 9)) = (Int32.toInt z8) := by rw [g10e, upd2_at]
    exact Ex.ret ⟨hI, k0_0⟩
  refine Ex.ite (fun c12 => ?_) (fun c12 => ?_)
  ·
    have c12 := icc_lt (m := (Int32.toInt (g0 6 9))) (n := 40) rfl (by decide) c12
    exact J13 p1 p2 p3 g0 L0 (by omega) (by omega) hI k0_0
  ·
    have c12 := icc_nlt (m := (Int32.toInt (g0 6 9))) (n := 40) rfl (by decide) c12
    refine Ex.cb (sX3_dropFirstAct_6 fu hfu g0 L0 hI) (fun x13 g14 L15 hq17 => ?_)
    obtain ⟨hI, kk0, cp0⟩ := hq17
    have hI : zI XT g14 := hI
    have cp0 : (g14 6 9).toInt = 39 := cp0
    have k0_0 : g14 0 13 = g0 0 13 := kk0.trans k0_0
    exact J13 p1 p2 p3 g14 L15 (by omega) (by omega) hI k0_0
set_option maxHeartbeats 4000000 in
set_option maxRecDepth 100000 in
theorem sX3_row_6 (fu : Nat) (hfu : 1180591620717411303424 ≤ fu) (p1 : Int32) (g0 : Nat → Nat → Int32) (L0 : Nat → Nat → Int64) (hI : zI XT g0) : Ex (fX3_row_6 fu p1 g0 L0) (fun (r : Nat) (g1 : Nat → Nat → Int32) (L1 : Nat → Nat → Int64) => zI XT g1 ∧ g1 0 13 = g0 0 13 ∧ (25 ≤ r ∧ r ≤ 28)) := by
  have k0_0 : g0 0 13 = g0 0 13 := rfl
  unfold fX3_row_6
  refine Ex.ite (fun c1 => ?_) (fun c1 => ?_)
  ·
    exact Ex.ret ⟨hI, k0_0, ⟨by decide, by decide⟩⟩
  ·
    refine Ex.ite (fun c2 => ?_) (fun c2 => ?_)
    ·
      exact Ex.ret ⟨hI, k0_0, ⟨by decide, by decide⟩⟩
    ·
      refine Ex.ite (fun c3 => ?_) (fun c3 => ?_)
      ·
        exact Ex.ret ⟨hI, k0_0, ⟨by decide, by decide⟩⟩
      ·
        exact Ex.ret ⟨hI, k0_0, ⟨by decide, by decide⟩⟩
set_option maxHeartbeats 4000000 in
set_option maxRecDepth 100000 in
theorem sX3_put_6 (fu : Nat) (hfu : 1180591620717411303424 ≤ fu) (p1 : Int32) (p2 : Int32) (p3 : Int32) (g0 : Nat → Nat → Int32) (L0 : Nat → Nat → Int64) (hI : zI XT g0) (hp2 : (0 ≤ (Int32.toInt p2) ∧ (Int32.toInt p2) ≤ 11)) : Ex (fX3_put_6 fu p1 p2 p3 g0 L0) (fun (r : Unit) (g1 : Nat → Nat → Int32) (L1 : Nat → Nat → Int64) => zI XT g1 ∧ g1 0 13 = g0 0 13) := by
  have k0_0 : g0 0 13 = g0 0 13 := rfl
  unfold fX3_put_6
  refine Ex.cb (sX3_row_6 fu hfu p1 g0 L0 hI) (fun x1 g2 L3 hq5 => ?_)
  obtain ⟨hI, kk0, rb_⟩ := hq5
  refine Ex.ckr rb_.1 rb_.2 ?_
  have hI : zI XT g2 := hI
  have k0_0 : g2 0 13 = g0 0 13 := kk0.trans k0_0
  refine Ex.ck (by omega) (by omega) ?_
  refine Ex.sti (hI.updN (xt_row (by omega) (by omega))) (fun g6 g6e hI => ?_)
  have k0_0 : g6 0 13 = g0 0 13 := by rw [g6e]; exact (upd2_nk (by omega)).trans k0_0
  exact Ex.ret ⟨hI, k0_0⟩
set_option maxHeartbeats 4000000 in
set_option maxRecDepth 100000 in
theorem sX3_takeBackAct_6 (fu : Nat) (hfu : 1180591620717411303424 ≤ fu) (g0 : Nat → Nat → Int32) (L0 : Nat → Nat → Int64) (hI : zI XT g0) : Ex (fX3_takeBackAct_6 fu g0 L0) (fun (r : Int32) (g1 : Nat → Nat → Int32) (L1 : Nat → Nat → Int64) => zI XT g1 ∧ g1 0 13 = g0 0 13 ∧ ((-1) ≤ (Int32.toInt r) ∧ (Int32.toInt r) ≤ 40)) := by
  have k0_0 : g0 0 13 = g0 0 13 := rfl
  unfold fX3_takeBackAct_6
  have b1 : 0 ≤ (Int32.toInt (g0 6 9)) ∧ (Int32.toInt (g0 6 9)) ≤ 40 := hI 6 9 0 40 rfl
  refine Ex.ite (fun c2 => ?_) (fun c2 => ?_)
  ·
    have c2 := icc_le (m := 1) (n := (Int32.toInt (g0 6 9))) (by decide) rfl c2
    generalize z3q : ((g0 6 9) - 1) = z3
    have e4 : (Int32.toInt z3) = (Int32.toInt (g0 6 9)) - 1 := by rw [← z3q]; exact ic_subc rfl (by decide) (by omega) (by omega)
    refine Ex.sti (hI.upd rfl (by omega) (by omega)) (fun g5 g5e hI => ?_)
    have k0_0 : g5 0 13 = g0 0 13 := by rw [g5e]; exact k0_0
    have w6 : (Int32.toInt (g5 6 9)) = (Int32.toInt z3) := by rw [g5e, upd2_at]
    refine Ex.ck (by omega) (by omega) ?_
    have J80 : ∀ (g : Nat → Nat → Int32) (L : Nat → Nat → Int64), zI XT g → g 0 13 = g0 0 13 → Ex (fX3_takeBackAct_6_p80 fu g L) (fun (r : Int32) (g1 : Nat → Nat → Int32) (L1 : Nat → Nat → Int64) => zI XT g1 ∧ g1 0 13 = g0 0 13 ∧ ((-1) ≤ (Int32.toInt r) ∧ (Int32.toInt r) ≤ 40)) := by
      intro g L hI k0_0
      unfold fX3_takeBackAct_6_p80
      have b7 : 0 ≤ (Int32.toInt (g 6 9)) ∧ (Int32.toInt (g 6 9)) ≤ 40 := hI 6 9 0 40 rfl
      exact Ex.ret ⟨hI, k0_0, (by omega)⟩
    refine Ex.ite (fun c8 => ?_) (fun c8 => ?_)
    ·
      have c8 := icc_eq (m := (Int32.toInt (g5 29 (Int32.toNatClampNeg (g5 6 9))))) (n := 4) rfl (by decide) c8
      refine Ex.ck (by omega) (by omega) ?_
      refine Ex.sti (hI.updN rfl) (fun g9 g9e hI => ?_)
      have w10 : (Int32.toInt (g9 6 9)) = (Int32.toInt (g5 6 9)) := by rw [g9e]; rfl
      have k0_0 : g9 0 13 = g0 0 13 := by rw [g9e]; exact k0_0
      exact J80 g9 L0 hI k0_0
    ·
      have c8 := icc_neq (m := (Int32.toInt (g5 29 (Int32.toNatClampNeg (g5 6 9))))) (n := 4) rfl (by decide) c8
      refine Ex.ck (by omega) (by omega) ?_
      refine Ex.ck (by omega) (by omega) ?_
      have b11 : 0 ≤ (Int32.toInt (g5 30 (Int32.toNatClampNeg (g5 6 9)))) ∧ (Int32.toInt (g5 30 (Int32.toNatClampNeg (g5 6 9)))) ≤ 11 := hI 30 _ 0 11 rfl
      refine Ex.ck (by omega) (by omega) ?_
      refine Ex.cb (sX3_put_6 fu hfu (g5 29 (Int32.toNatClampNeg (g5 6 9))) (g5 30 (Int32.toNatClampNeg (g5 6 9))) (g5 31 (Int32.toNatClampNeg (g5 6 9))) g5 L0 hI (by omega)) (fun x12 g13 L14 hq16 => ?_)
      obtain ⟨hI, kk0⟩ := hq16
      have hI : zI XT g13 := hI
      have k0_0 : g13 0 13 = g0 0 13 := kk0.trans k0_0
      exact J80 g13 L14 hI k0_0
  ·
    have c2 := icc_nle (m := 1) (n := (Int32.toInt (g0 6 9))) (by decide) rfl c2
    exact Ex.ret ⟨hI, k0_0, (by decide)⟩
set_option maxHeartbeats 4000000 in
set_option maxRecDepth 100000 in
theorem sX3_copy_6_7 (fu : Nat) (hfu : 1180591620717411303424 ≤ fu) (g0 : Nat → Nat → Int32) (L0 : Nat → Nat → Int64) (hI : zI XT g0) : Ex (fX3_copy_6_7 fu g0 L0) (fun (r : Unit) (g1 : Nat → Nat → Int32) (L1 : Nat → Nat → Int64) => zI XT g1 ∧ g1 0 13 = g0 0 13) := by
  have k0_0 : g0 0 13 = g0 0 13 := rfl
  unfold fX3_copy_6_7
  refine Ex.stA (hI.cpy (fun _ _ => rfl)) (fun g1 g1e hI => ?_)
  have k0_0 : g1 0 13 = g0 0 13 := by rw [g1e]; exact k0_0
  refine Ex.stA (hI.cpy (fun _ _ => rfl)) (fun g2 g2e hI => ?_)
  have k0_0 : g2 0 13 = g0 0 13 := by rw [g2e]; exact k0_0
  refine Ex.stA (hI.cpy (fun _ _ => rfl)) (fun g3 g3e hI => ?_)
  have k0_0 : g3 0 13 = g0 0 13 := by rw [g3e]; exact k0_0
  refine Ex.stA (hI.cpy (fun _ _ => rfl)) (fun g4 g4e hI => ?_)
  have k0_0 : g4 0 13 = g0 0 13 := by rw [g4e]; exact k0_0
  refine Ex.stA (hI.cpy (fun _ _ => rfl)) (fun g5 g5e hI => ?_)
  have k0_0 : g5 0 13 = g0 0 13 := by rw [g5e]; exact k0_0
  refine Ex.stA (hI.cpy (fun _ _ => rfl)) (fun g6 g6e hI => ?_)
  have k0_0 : g6 0 13 = g0 0 13 := by rw [g6e]; exact k0_0
  refine Ex.stA (hI.cpy (fun _ _ => rfl)) (fun g7 g7e hI => ?_)
  have k0_0 : g7 0 13 = g0 0 13 := by rw [g7e]; exact k0_0
  refine Ex.stA (hI.cpy (fun _ _ => rfl)) (fun g8 g8e hI => ?_)
  have k0_0 : g8 0 13 = g0 0 13 := by rw [g8e]; exact k0_0
  refine Ex.stA (hI.cpy (fun _ _ => rfl)) (fun g9 g9e hI => ?_)
  have k0_0 : g9 0 13 = g0 0 13 := by rw [g9e]; exact k0_0
  have b10 : 0 ≤ (Int32.toInt (g9 7 9)) ∧ (Int32.toInt (g9 7 9)) ≤ 40 := hI 7 9 0 40 rfl
  refine Ex.sti (hI.upd rfl (by omega) (by omega)) (fun g11 g11e hI => ?_)
  have k0_0 : g11 0 13 = g0 0 13 := by rw [g11e]; exact k0_0
  have b12 : 0 ≤ (Int32.toInt (g11 7 10)) ∧ (Int32.toInt (g11 7 10)) ≤ 8 := hI 7 10 0 8 rfl
  refine Ex.sti (hI.upd rfl (by omega) (by omega)) (fun g13 g13e hI => ?_)
  have k0_0 : g13 0 13 = g0 0 13 := by rw [g13e]; exact k0_0
  refine Ex.sti (hI.updN rfl) (fun g14 g14e hI => ?_)
  have k0_0 : g14 0 13 = g0 0 13 := by rw [g14e]; exact k0_0
  exact Ex.ret ⟨hI, k0_0⟩
set_option maxHeartbeats 4000000 in
set_option maxRecDepth 100000 in
theorem sX3_copy_7_6 (fu : Nat) (hfu : 1180591620717411303424 ≤ fu) (g0 : Nat → Nat → Int32) (L0 : Nat → Nat → Int64) (hI : zI XT g0) : Ex (fX3_copy_7_6 fu g0 L0) (fun (r : Unit) (g1 : Nat → Nat → Int32) (L1 : Nat → Nat → Int64) => zI XT g1 ∧ g1 0 13 = g0 0 13) := by
  have k0_0 : g0 0 13 = g0 0 13 := rfl
  unfold fX3_copy_7_6
  refine Ex.stA (hI.cpy (fun _ _ => rfl)) (fun g1 g1e hI => ?_)
  have k0_0 : g1 0 13 = g0 0 13 := by rw [g1e]; exact k0_0
  refine Ex.stA (hI.cpy (fun _ _ => rfl)) (fun g2 g2e hI => ?_)
  have k0_0 : g2 0 13 = g0 0 13 := by rw [g2e]; exact k0_0
  refine Ex.stA (hI.cpy (fun _ _ => rfl)) (fun g3 g3e hI => ?_)
  have k0_0 : g3 0 13 = g0 0 13 := by rw [g3e]; exact k0_0
  refine Ex.stA (hI.cpy (fun _ _ => rfl)) (fun g4 g4e hI => ?_)
  have k0_0 : g4 0 13 = g0 0 13 := by rw [g4e]; exact k0_0
  refine Ex.stA (hI.cpy (fun _ _ => rfl)) (fun g5 g5e hI => ?_)
  have k0_0 : g5 0 13 = g0 0 13 := by rw [g5e]; exact k0_0
  refine Ex.stA (hI.cpy (fun _ _ => rfl)) (fun g6 g6e hI => ?_)
  have k0_0 : g6 0 13 = g0 0 13 := by rw [g6e]; exact k0_0
  refine Ex.stA (hI.cpy (fun _ _ => rfl)) (fun g7 g7e hI => ?_)
  have k0_0 : g7 0 13 = g0 0 13 := by rw [g7e]; exact k0_0
  refine Ex.stA (hI.cpy (fun _ _ => rfl)) (fun g8 g8e hI => ?_)
  have k0_0 : g8 0 13 = g0 0 13 := by rw [g8e]; exact k0_0
  refine Ex.stA (hI.cpy (fun _ _ => rfl)) (fun g9 g9e hI => ?_)
  have k0_0 : g9 0 13 = g0 0 13 := by rw [g9e]; exact k0_0
  have b10 : 0 ≤ (Int32.toInt (g9 6 9)) ∧ (Int32.toInt (g9 6 9)) ≤ 40 := hI 6 9 0 40 rfl
  refine Ex.sti (hI.upd rfl (by omega) (by omega)) (fun g11 g11e hI => ?_)
  have k0_0 : g11 0 13 = g0 0 13 := by rw [g11e]; exact k0_0
  have b12 : 0 ≤ (Int32.toInt (g11 6 10)) ∧ (Int32.toInt (g11 6 10)) ≤ 8 := hI 6 10 0 8 rfl
  refine Ex.sti (hI.upd rfl (by omega) (by omega)) (fun g13 g13e hI => ?_)
  have k0_0 : g13 0 13 = g0 0 13 := by rw [g13e]; exact k0_0
  refine Ex.sti (hI.updN rfl) (fun g14 g14e hI => ?_)
  have k0_0 : g14 0 13 = g0 0 13 := by rw [g14e]; exact k0_0
  exact Ex.ret ⟨hI, k0_0⟩
set_option maxHeartbeats 4000000 in
set_option maxRecDepth 100000 in
theorem sX3_keepSeen_6 (fu : Nat) (hfu : 1180591620717411303424 ≤ fu) (p1 : Int32) (p2 : Int32) (g0 : Nat → Nat → Int32) (L0 : Nat → Nat → Int64) (hI : zI XT g0) (hp1 : (0 ≤ (Int32.toInt p1) ∧ (Int32.toInt p1) ≤ 11)) : Ex (fX3_keepSeen_6 fu p1 p2 g0 L0) (fun (r : Unit) (g1 : Nat → Nat → Int32) (L1 : Nat → Nat → Int64) => zI XT g1 ∧ g1 0 13 = g0 0 13) := by
  have k0_0 : g0 0 13 = g0 0 13 := rfl
  unfold fX3_keepSeen_6
  have b1 : 0 ≤ (Int32.toInt (g0 6 10)) ∧ (Int32.toInt (g0 6 10)) ≤ 8 := hI 6 10 0 8 rfl
  have J39 : ∀ (g : Nat → Nat → Int32) (L : Nat → Nat → Int64), (1 ≤ (Int32.toInt (g 6 10)) ∧ (Int32.toInt (g 6 10)) ≤ 8) → zI XT g → g 0 13 = g0 0 13 → Ex (fX3_keepSeen_6_p39 fu g L) (fun (r : Unit) (g1 : Nat → Nat → Int32) (L1 : Nat → Nat → Int64) => zI XT g1 ∧ g1 0 13 = g0 0 13) := by
    intro g L hw_6_10 hI k0_0
    unfold fX3_keepSeen_6_p39
    exact Ex.ret ⟨hI, k0_0⟩
  refine Ex.ite (fun c2 => ?_) (fun c2 => ?_)
  ·
    have c2 := icc_le (m := 8) (n := (Int32.toInt (g0 6 10))) (by decide) rfl c2
    exact J39 g0 L0 (by omega) hI k0_0
  ·
    have c2 := icc_nle (m := 8) (n := (Int32.toInt (g0 6 10))) (by decide) rfl c2
    refine Ex.ck (by omega) (by omega) ?_
    refine Ex.sti (hI.upd rfl (by omega) (by omega)) (fun g3 g3e hI => ?_)
    have w4 : (Int32.toInt (g3 6 10)) = (Int32.toInt (g0 6 10)) := by rw [g3e]; rfl
    have k0_0 : g3 0 13 = g0 0 13 := by rw [g3e]; exact k0_0
    refine Ex.ck (by omega) (by omega) ?_
    refine Ex.sti (hI.updN rfl) (fun g5 g5e hI => ?_)
    have w6 : (Int32.toInt (g5 6 10)) = (Int32.toInt (g3 6 10)) := by rw [g5e]; rfl
    have k0_0 : g5 0 13 = g0 0 13 := by rw [g5e]; exact k0_0
    generalize z7q : ((g5 6 10) + 1) = z7
    have e8 : (Int32.toInt z7) = (Int32.toInt (g5 6 10)) + 1 := by rw [← z7q]; exact ic_addc rfl (by decide) (by omega) (by omega)
    refine Ex.sti (hI.upd rfl (by omega) (by omega)) (fun g9 g9e hI => ?_)
    have k0_0 : g9 0 13 = g0 0 13 := by rw [g9e]; exact k0_0
    have w10 : (Int32.toInt (g9 6 10)) = (Int32.toInt z7) := by rw [g9e, upd2_at]
    exact J39 g9 L0 (by omega) hI k0_0
set_option maxHeartbeats 4000000 in
set_option maxRecDepth 100000 in
theorem sX3_value_6 (fu : Nat) (hfu : 1180591620717411303424 ≤ fu) (p1 : Int32) (p2 : Int32) (g0 : Nat → Nat → Int32) (L0 : Nat → Nat → Int64) (hI : zI XT g0) (hp2 : (0 ≤ (Int32.toInt p2) ∧ (Int32.toInt p2) ≤ 11)) : Ex (fX3_value_6 fu p1 p2 g0 L0) (fun (r : Int32) (g1 : Nat → Nat → Int32) (L1 : Nat → Nat → Int64) => zI XT g1 ∧ g1 0 13 = g0 0 13) := by
  have k0_0 : g0 0 13 = g0 0 13 := rfl
  unfold fX3_value_6
  refine Ex.cb (sX3_row_6 fu hfu p1 g0 L0 hI) (fun x1 g2 L3 hq5 => ?_)
  obtain ⟨hI, kk0, rb_⟩ := hq5
  refine Ex.ckr rb_.1 rb_.2 ?_
  have hI : zI XT g2 := hI
  have k0_0 : g2 0 13 = g0 0 13 := kk0.trans k0_0
  refine Ex.ck (by omega) (by omega) ?_
  exact Ex.ret ⟨hI, k0_0⟩
set_option maxHeartbeats 4000000 in
set_option maxRecDepth 100000 in
theorem sX3_start_6_1 (fu : Nat) (hfu : 1180591620717411303424 ≤ fu) (g0 : Nat → Nat → Int32) (L0 : Nat → Nat → Int64) (hI : zI XT g0) : Ex (fX3_start_6_1 fu g0 L0) (fun (r : Unit) (g1 : Nat → Nat → Int32) (L1 : Nat → Nat → Int64) => zI XT g1 ∧ g1 0 13 = g0 0 13) := by
  have k0_0 : g0 0 13 = g0 0 13 := rfl
  unfold fX3_start_6_1
  have lp2 : ∀ (v2 : Int32) (g : Nat → Nat → Int32) (L : Nat → Nat → Int64), (0 ≤ (Int32.toInt v2) ∧ (Int32.toInt v2) ≤ 12) → zI XT g → g 0 13 = g0 0 13 → Ex (fX3_start_6_1_l2 fu v2 g L) (fun (r : Unit) (g1 : Nat → Nat → Int32) (L1 : Nat → Nat → Int64) => zI XT g1 ∧ g1 0 13 = g0 0 13) := by
    intro v2 g L hb_v2 hI k0_0
    unfold fX3_start_6_1_l2
    refine Ex.loop (fun v => ((0 ≤ (Int32.toInt (v.1)) ∧ (Int32.toInt (v.1)) ≤ 12)) ∧ (zI XT (v.2.1)) ∧ ((v.2.1) 0 13 = g0 0 13)) (fun v => 13 - (Int32.toInt (v.1))) (by omega) (by show 13 - (Int32.toInt v2) < (fu : Int); omega) ⟨hb_v2, hI, k0_0⟩ (fun k2 v hv ih2 => ?_)
    obtain ⟨v2, g, L⟩ := v
    obtain ⟨hb_v2, hI, k0_0⟩ := hv
    have hb_v2 : (0 ≤ (Int32.toInt v2) ∧ (Int32.toInt v2) ≤ 12) := hb_v2
    have hI : zI XT g := hI
    have k0_0 : g 0 13 = g0 0 13 := k0_0
    have ih2 : ∀ v' : Int32 × (Nat → Nat → Int32) × (Nat → Nat → Int64), (((0 ≤ (Int32.toInt (v'.1)) ∧ (Int32.toInt (v'.1)) ≤ 12)) ∧ (zI XT (v'.2.1)) ∧ ((v'.2.1) 0 13 = g0 0 13)) → 13 - (Int32.toInt (v'.1)) < 13 - (Int32.toInt v2) → 0 < 13 - (Int32.toInt v2) → Ex (k2 v') (fun (r : Unit) (g1 : Nat → Nat → Int32) (L1 : Nat → Nat → Int64) => zI XT g1 ∧ g1 0 13 = g0 0 13) := ih2
    show Ex (fX3_start_6_1_s2 fu k2 v2 g L) (fun (r : Unit) (g1 : Nat → Nat → Int32) (L1 : Nat → Nat → Int64) => zI XT g1 ∧ g1 0 13 = g0 0 13)
    unfold fX3_start_6_1_s2
    have b1 : 0 ≤ (Int32.toInt (g 1 2)) ∧ (Int32.toInt (g 1 2)) ≤ 12 := hI 1 2 0 12 rfl
    refine Ex.ite (fun c2 => ?_) (fun c2 => ?_)
    ·
      have c2 := icc_le (m := (Int32.toInt (g 1 2))) (n := (Int32.toInt v2)) rfl rfl c2
      refine Ex.sti (hI.upd rfl (by decide) (by decide)) (fun g3 g3e hI => ?_)
      have k0_0 : g3 0 13 = g0 0 13 := by rw [g3e]; exact k0_0
      refine Ex.sti (hI.upd rfl (by decide) (by decide)) (fun g4 g4e hI => ?_)
      have k0_0 : g4 0 13 = g0 0 13 := by rw [g4e]; exact k0_0
      refine Ex.sti (hI.updN rfl) (fun g5 g5e hI => ?_)
      have k0_0 : g5 0 13 = g0 0 13 := by rw [g5e]; exact k0_0
      exact Ex.ret ⟨hI, k0_0⟩
    ·
      have c2 := icc_nle (m := (Int32.toInt (g 1 2))) (n := (Int32.toInt v2)) rfl rfl c2
      refine Ex.ck (by omega) (by omega) ?_
      refine Ex.ltn (fun q6 q6e => ?_)
      have q6b : 57 ≤ q6 ∧ q6 < 69 := by have := Nat.mod_lt (Int32.toNatClampNeg v2) (show 12 > 0 by decide); omega
      refine Ex.ck (by omega) (by omega) ?_
      refine Ex.sti (hI.updN rfl) (fun g7 g7e hI => ?_)
      have k0_0 : g7 0 13 = g0 0 13 := by rw [g7e]; exact k0_0
      refine Ex.ck (by omega) (by omega) ?_
      refine Ex.sti (hI.updN rfl) (fun g8 g8e hI => ?_)
      have k0_0 : g8 0 13 = g0 0 13 := by rw [g8e]; exact k0_0
      refine Ex.ck (by omega) (by omega) ?_
      refine Ex.sti (hI.updN rfl) (fun g9 g9e hI => ?_)
      have k0_0 : g9 0 13 = g0 0 13 := by rw [g9e]; exact k0_0
      refine Ex.ck (by omega) (by omega) ?_
      refine Ex.sti (hI.updN rfl) (fun g10 g10e hI => ?_)
      have k0_0 : g10 0 13 = g0 0 13 := by rw [g10e]; exact k0_0
      generalize z11q : (v2 + 1) = z11
      have e12 : (Int32.toInt z11) = (Int32.toInt v2) + 1 := by rw [← z11q]; exact ic_addc rfl (by decide) (by omega) (by omega)
      exact ih2 (z11, g10, L) ⟨(show (0 ≤ (Int32.toInt z11) ∧ (Int32.toInt z11) ≤ 12) from by omega), hI, k0_0⟩ (by show 13 - (Int32.toInt z11) < _; omega) (by omega)
  exact lp2 0 g0 L0 (by decide) hI k0_0
