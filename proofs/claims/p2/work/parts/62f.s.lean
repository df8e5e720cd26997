set_option maxHeartbeats 4000000 in
set_option maxRecDepth 100000 in
theorem sX1_runFrom_8 (fu : Nat) (hfu : 1099511627776 ≤ fu) (p1 : Int32) (g0 : Nat → Nat → Int32) (L0 : Nat → Nat → Int64) (hI : zI XT g0) (hp1 : (0 ≤ (Int32.toInt p1) ∧ (Int32.toInt p1) ≤ 12)) : Ex (fX1_runFrom_8 fu p1 g0 L0) (fun (r : Unit) (g1 : Nat → Nat → Int32) (L1 : Nat → Nat → Int64) => zI XT g1 ∧ g1 0 13 = g0 0 13) := by
  have k0_0 : g0 0 13 = g0 0 13 := rfl
  unfold fX1_runFrom_8
  have lp2 : ∀ (v2 : Int32) (g : Nat → Nat → Int32) (L : Nat → Nat → Int64), (0 ≤ (Int32.toInt v2) ∧ (Int32.toInt v2) ≤ 12) → zI XT g → g 0 13 = g0 0 13 → Ex (fX1_runFrom_8_l2 fu v2 g L) (fun (r : Unit) (g1 : Nat → Nat → Int32) (L1 : Nat → Nat → Int64) => zI XT g1 ∧ g1 0 13 = g0 0 13) := by
    intro v2 g L hb_v2 hI k0_0
    unfold fX1_runFrom_8_l2
    refine Ex.loop (fun v => ((0 ≤ (Int32.toInt (v.1)) ∧ (Int32.toInt (v.1)) ≤ 12)) ∧ (zI XT (v.2.1)) ∧ ((v.2.1) 0 13 = g0 0 13)) (fun v => 13 - (Int32.toInt (v.1))) (by omega) (by show 13 - (Int32.toInt v2) < (fu : Int); omega) ⟨hb_v2, hI, k0_0⟩ (fun k2 v hv ih2 => ?_)
    obtain ⟨v2, g, L⟩ := v
    obtain ⟨hb_v2, hI, k0_0⟩ := hv
    have hb_v2 : (0 ≤ (Int32.toInt v2) ∧ (Int32.toInt v2) ≤ 12) := hb_v2
    have hI : zI XT g := hI
    have k0_0 : g 0 13 = g0 0 13 := k0_0
    have ih2 : ∀ v' : Int32 × (Nat → Nat → Int32) × (Nat → Nat → Int64), (((0 ≤ (Int32.toInt (v'.1)) ∧ (Int32.toInt (v'.1)) ≤ 12)) ∧ (zI XT (v'.2.1)) ∧ ((v'.2.1) 0 13 = g0 0 13)) → 13 - (Int32.toInt (v'.1)) < 13 - (Int32.toInt v2) → 0 < 13 - (Int32.toInt v2) → Ex (k2 v') (fun (r : Unit) (g1 : Nat → Nat → Int32) (L1 : Nat → Nat → Int64) => zI XT g1 ∧ g1 0 13 = g0 0 13) := ih2
    show Ex (fX1_runFrom_8_s2 fu k2 v2 g L) (fun (r : Unit) (g1 : Nat → Nat → Int32) (L1 : Nat → Nat → Int64) => zI XT g1 ∧ g1 0 13 = g0 0 13)
    unfold fX1_runFrom_8_s2
    have b1 : 0 ≤ (Int32.toInt (g 1 2)) ∧ (Int32.toInt (g 1 2)) ≤ 12 := hI 1 2 0 12 rfl
    refine Ex.ite (fun c2 => ?_) (fun c2 => ?_)
    ·
      have c2 := icc_le (m := (Int32.toInt (g 1 2))) (n := (Int32.toInt v2)) rfl rfl c2
      exact Ex.ret ⟨hI, k0_0⟩
    ·
      have c2 := icc_nle (m := (Int32.toInt (g 1 2))) (n := (Int32.toInt v2)) rfl rfl c2
      refine Ex.cb (sX1_runOne_8 fu hfu v2 g L hI (by omega)) (fun x3 g4 L5 hq7 => ?_)
      obtain ⟨hI, kk0⟩ := hq7
      have hI : zI XT g4 := hI
      have k0_0 : g4 0 13 = g0 0 13 := kk0.trans k0_0
      generalize z8q : (v2 + 1) = z8
      have e9 : (Int32.toInt z8) = (Int32.toInt v2) + 1 := by rw [← z8q]; exact ic_addc rfl (by decide) (by omega) (by omega)
      exact ih2 (z8, g4, L5) ⟨(show (0 ≤ (Int32.toInt z8) ∧ (Int32.toInt z8) ≤ 12) from by omega), hI, k0_0⟩ (by show 13 - (Int32.toInt z8) < _; omega) (by omega)
  exact lp2 p1 g0 L0 (by omega) hI k0_0
set_option maxHeartbeats 4000000 in
set_option maxRecDepth 100000 in
theorem sX1_lostFrom_8 (fu : Nat) (hfu : 1099511627776 ≤ fu) (p1 : Int32) (g0 : Nat → Nat → Int32) (L0 : Nat → Nat → Int64) (hI : zI XT g0) (hp1 : (0 ≤ (Int32.toInt p1) ∧ (Int32.toInt p1) ≤ 12)) : Ex (fX1_lostFrom_8 fu p1 g0 L0) (fun (r : Int32) (g1 : Nat → Nat → Int32) (L1 : Nat → Nat → Int64) => zI XT g1 ∧ g1 0 13 = g0 0 13) := by
  have k0_0 : g0 0 13 = g0 0 13 := rfl
  unfold fX1_lostFrom_8
  have lp2 : ∀ (v2 : Int32) (g : Nat → Nat → Int32) (L : Nat → Nat → Int64), (0 ≤ (Int32.toInt v2) ∧ (Int32.toInt v2) ≤ 12) → zI XT g → g 0 13 = g0 0 13 → Ex (fX1_lostFrom_8_l2 fu v2 g L) (fun (r : Int32) (g1 : Nat → Nat → Int32) (L1 : Nat → Nat → Int64) => zI XT g1 ∧ g1 0 13 = g0 0 13) := by
    intro v2 g L hb_v2 hI k0_0
    unfold fX1_lostFrom_8_l2
    refine Ex.loop (fun v => ((0 ≤ (Int32.toInt (v.1)) ∧ (Int32.toInt (v.1)) ≤ 12)) ∧ (zI XT (v.2.1)) ∧ ((v.2.1) 0 13 = g0 0 13)) (fun v => 13 - (Int32.toInt (v.1))) (by omega) (by show 13 - (Int32.toInt v2) < (fu : Int); omega) ⟨hb_v2, hI, k0_0⟩ (fun k2 v hv ih2 => ?_)
    obtain ⟨v2, g, L⟩ := v
    obtain ⟨hb_v2, hI, k0_0⟩ := hv
    have hb_v2 : (0 ≤ (Int32.toInt v2) ∧ (Int32.toInt v2) ≤ 12) := hb_v2
    have hI : zI XT g := hI
    have k0_0 : g 0 13 = g0 0 13 := k0_0
    have ih2 : ∀ v' : Int32 × (Nat → Nat → Int32) × (Nat → Nat → Int64), (((0 ≤ (Int32.toInt (v'.1)) ∧ (Int32.toInt (v'.1)) ≤ 12)) ∧ (zI XT (v'.2.1)) ∧ ((v'.2.1) 0 13 = g0 0 13)) → 13 - (Int32.toInt (v'.1)) < 13 - (Int32.toInt v2) → 0 < 13 - (Int32.toInt v2) → Ex (k2 v') (fun (r : Int32) (g1 : Nat → Nat → Int32) (L1 : Nat → Nat → Int64) => zI XT g1 ∧ g1 0 13 = g0 0 13) := ih2
    show Ex (fX1_lostFrom_8_s2 fu k2 v2 g L) (fun (r : Int32) (g1 : Nat → Nat → Int32) (L1 : Nat → Nat → Int64) => zI XT g1 ∧ g1 0 13 = g0 0 13)
    unfold fX1_lostFrom_8_s2
    have b1 : 0 ≤ (Int32.toInt (g 1 2)) ∧ (Int32.toInt (g 1 2)) ≤ 12 := hI 1 2 0 12 rfl
    refine Ex.ite (fun c2 => ?_) (fun c2 => ?_)
    ·
      have c2 := icc_le (m := (Int32.toInt (g 1 2))) (n := (Int32.toInt v2)) rfl rfl c2
      refine Ex.cb (sX1_lost_8 fu hfu g L hI) (fun x3 g4 L5 hq7 => ?_)
      obtain ⟨hI, kk0⟩ := hq7
      have hI : zI XT g4 := hI
      have k0_0 : g4 0 13 = g0 0 13 := kk0.trans k0_0
      exact Ex.ret ⟨hI, k0_0⟩
    ·
      have c2 := icc_nle (m := (Int32.toInt (g 1 2))) (n := (Int32.toInt v2)) rfl rfl c2
      refine Ex.cb (sX1_runOne_8 fu hfu v2 g L hI (by omega)) (fun x8 g9 L10 hq12 => ?_)
      obtain ⟨hI, kk0⟩ := hq12
      have hI : zI XT g9 := hI
      have k0_0 : g9 0 13 = g0 0 13 := kk0.trans k0_0
      generalize z13q : (v2 + 1) = z13
      have e14 : (Int32.toInt z13) = (Int32.toInt v2) + 1 := by rw [← z13q]; exact ic_addc rfl (by decide) (by omega) (by omega)
      exact ih2 (z13, g9, L10) ⟨(show (0 ≤ (Int32.toInt z13) ∧ (Int32.toInt z13) ≤ 12) from by omega), hI, k0_0⟩ (by show 13 - (Int32.toInt z13) < _; omega) (by omega)
  exact lp2 p1 g0 L0 (by omega) hI k0_0
set_option maxHeartbeats 4000000 in
set_option maxRecDepth 100000 in
theorem sX1_lateOnes_8 (fu : Nat) (hfu : 1099511627776 ≤ fu) (g0 : Nat → Nat → Int32) (L0 : Nat → Nat → Int64) (hI : zI XT g0) : Ex (fX1_lateOnes_8 fu g0 L0) (fun (r : Int32) (g1 : Nat → Nat → Int32) (L1 : Nat → Nat → Int64) => zI XT g1 ∧ g1 0 13 = g0 0 13) := by
  have k0_0 : g0 0 13 = g0 0 13 := rfl
  unfold fX1_lateOnes_8
  have lp4 : ∀ (v1 : Int32) (v2 : Int32) (g : Nat → Nat → Int32) (L : Nat → Nat → Int64), (0 ≤ (Int32.toInt v2) ∧ (Int32.toInt v2) ≤ 12) → zI XT g → g 0 13 = g0 0 13 → Ex (fX1_lateOnes_8_l4 fu v1 v2 g L) (fun (r : Int32) (g1 : Nat → Nat → Int32) (L1 : Nat → Nat → Int64) => zI XT g1 ∧ g1 0 13 = g0 0 13) := by
    intro v1 v2 g L hb_v2 hI k0_0
    unfold fX1_lateOnes_8_l4
    refine Ex.loop (fun v => ((0 ≤ (Int32.toInt (v.2.1)) ∧ (Int32.toInt (v.2.1)) ≤ 12)) ∧ (zI XT (v.2.2.1)) ∧ ((v.2.2.1) 0 13 = g0 0 13)) (fun v => 13 - (Int32.toInt (v.2.1))) (by omega) (by show 13 - (Int32.toInt v2) < (fu : Int); omega) ⟨hb_v2, hI, k0_0⟩ (fun k4 v hv ih4 => ?_)
    obtain ⟨v1, v2, g, L⟩ := v
    obtain ⟨hb_v2, hI, k0_0⟩ := hv
    have hb_v2 : (0 ≤ (Int32.toInt v2) ∧ (Int32.toInt v2) ≤ 12) := hb_v2
    have hI : zI XT g := hI
    have k0_0 : g 0 13 = g0 0 13 := k0_0
    have ih4 : ∀ v' : Int32 × Int32 × (Nat → Nat → Int32) × (Nat → Nat → Int64), (((0 ≤ (Int32.toInt (v'.2.1)) ∧ (Int32.toInt (v'.2.1)) ≤ 12)) ∧ (zI XT (v'.2.2.1)) ∧ ((v'.2.2.1) 0 13 = g0 0 13)) → 13 - (Int32.toInt (v'.2.1)) < 13 - (Int32.toInt v2) → 0 < 13 - (Int32.toInt v2) → Ex (k4 v') (fun (r : Int32) (g1 : Nat → Nat → Int32) (L1 : Nat → Nat → Int64) => zI XT g1 ∧ g1 0 13 = g0 0 13) := ih4
    show Ex (fX1_lateOnes_8_s4 fu k4 v1 v2 g L) (fun (r : Int32) (g1 : Nat → Nat → Int32) (L1 : Nat → Nat → Int64) => zI XT g1 ∧ g1 0 13 = g0 0 13)
    unfold fX1_lateOnes_8_s4
    have b1 : 0 ≤ (Int32.toInt (g 1 2)) ∧ (Int32.toInt (g 1 2)) ≤ 12 := hI 1 2 0 12 rfl
    refine Ex.ite (fun c2 => ?_) (fun c2 => ?_)
    ·
      have c2 := icc_le (m := (Int32.toInt (g 1 2))) (n := (Int32.toInt v2)) rfl rfl c2
      exact Ex.ret ⟨hI, k0_0⟩
    ·
      have c2 := icc_nle (m := (Int32.toInt (g 1 2))) (n := (Int32.toInt v2)) rfl rfl c2
      refine Ex.cb (sX1_late_8 fu hfu v2 g L hI (by omega)) (fun x3 g4 L5 hq7 => ?_)
      obtain ⟨hI, kk0⟩ := hq7
      have hI : zI XT g4 := hI
      have k0_0 : g4 0 13 = g0 0 13 := kk0.trans k0_0
      have J29 : ∀ (t0 : Int32) (t1 : Int32) (g : Nat → Nat → Int32) (L : Nat → Nat → Int64), (0 ≤ (Int32.toInt v2) ∧ (Int32.toInt v2) ≤ 11) → (0 ≤ (Int32.toInt t0) ∧ (Int32.toInt t0) ≤ 1) → zI XT g → g 0 13 = g0 0 13 → Ex (fX1_lateOnes_8_p29 fu k4 v2 t0 t1 g L) (fun (r : Int32) (g1 : Nat → Nat → Int32) (L1 : Nat → Nat → Int64) => zI XT g1 ∧ g1 0 13 = g0 0 13) := by
        intro t0 t1 g L hb_v2 hb_t0 hI k0_0
        unfold fX1_lateOnes_8_p29
        generalize z8q : (t1 + t0) = z8
        refine Ex.lti (fun x9 x9e x9i => ?_)
        generalize z10q : (v2 + 1) = z10
        have e11 : (Int32.toInt z10) = (Int32.toInt v2) + 1 := by rw [← z10q]; exact ic_addc rfl (by decide) (by omega) (by omega)
        exact ih4 (x9, z10, g, L) ⟨(show (0 ≤ (Int32.toInt z10) ∧ (Int32.toInt z10) ≤ 12) from by omega), hI, k0_0⟩ (by show 13 - (Int32.toInt z10) < _; omega) (by omega)
      refine Ex.ite (fun c12 => ?_) (fun c12 => ?_)
      ·
        have c12 := icc_le (m := (Int32.toInt x3)) (n := 0) rfl (by decide) c12
        exact J29 0 v1 g4 L5 (by omega) (by decide) hI k0_0
      ·
        have c12 := icc_nle (m := (Int32.toInt x3)) (n := 0) rfl (by decide) c12
        exact J29 1 v1 g4 L5 (by omega) (by decide) hI k0_0
  exact lp4 0 0 g0 L0 (by decide) hI k0_0
set_option maxHeartbeats 4000000 in
set_option maxRecDepth 100000 in
theorem sX1_latest_8 (fu : Nat) (hfu : 1099511627776 ≤ fu) (g0 : Nat → Nat → Int32) (L0 : Nat → Nat → Int64) (hI : zI XT g0) : Ex (fX1_latest_8 fu g0 L0) (fun (r : Int32) (g1 : Nat → Nat → Int32) (L1 : Nat → Nat → Int64) => zI XT g1 ∧ g1 0 13 = g0 0 13 ∧ (0 ≤ (Int32.toInt r))) := by
  have k0_0 : g0 0 13 = g0 0 13 := rfl
  unfold fX1_latest_8
  have lp4 : ∀ (v1 : Int32) (v2 : Int32) (g : Nat → Nat → Int32) (L : Nat → Nat → Int64), (0 ≤ (Int32.toInt v1)) → (0 ≤ (Int32.toInt v2) ∧ (Int32.toInt v2) ≤ 12) → zI XT g → g 0 13 = g0 0 13 → Ex (fX1_latest_8_l4 fu v1 v2 g L) (fun (r : Int32) (g1 : Nat → Nat → Int32) (L1 : Nat → Nat → Int64) => zI XT g1 ∧ g1 0 13 = g0 0 13 ∧ (0 ≤ (Int32.toInt r))) := by
    intro v1 v2 g L hb_v1 hb_v2 hI k0_0
    unfold fX1_latest_8_l4
    refine Ex.loop (fun v => ((0 ≤ (Int32.toInt (v.1)))) ∧ ((0 ≤ (Int32.toInt (v.2.1)) ∧ (Int32.toInt (v.2.1)) ≤ 12)) ∧ (zI XT (v.2.2.1)) ∧ ((v.2.2.1) 0 13 = g0 0 13)) (fun v => 13 - (Int32.toInt (v.2.1))) (by omega) (by show 13 - (Int32.toInt v2) < (fu : Int); omega) ⟨hb_v1, hb_v2, hI, k0_0⟩ (fun k4 v hv ih4 => ?_)
    obtain ⟨v1, v2, g, L⟩ := v
    obtain ⟨hb_v1, hb_v2, hI, k0_0⟩ := hv
    have hb_v1 : (0 ≤ (Int32.toInt v1)) := hb_v1
    have hb_v2 : (0 ≤ (Int32.toInt v2) ∧ (Int32.toInt v2) ≤ 12) := hb_v2
    have hI : zI XT g := hI
    have k0_0 : g 0 13 = g0 0 13 := k0_0
    have ih4 : ∀ v' : Int32 × Int32 × (Nat → Nat → Int32) × (Nat → Nat → Int64), (((0 ≤ (Int32.toInt (v'.1)))) ∧ ((0 ≤ (Int32.toInt (v'.2.1)) ∧ (Int32.toInt (v'.2.1)) ≤ 12)) ∧ (zI XT (v'.2.2.1)) ∧ ((v'.2.2.1) 0 13 = g0 0 13)) → 13 - (Int32.toInt (v'.2.1)) < 13 - (Int32.toInt v2) → 0 < 13 - (Int32.toInt v2) → Ex (k4 v') (fun (r : Int32) (g1 : Nat → Nat → Int32) (L1 : Nat → Nat → Int64) => zI XT g1 ∧ g1 0 13 = g0 0 13 ∧ (0 ≤ (Int32.toInt r))) := ih4
    show Ex (fX1_latest_8_s4 fu k4 v1 v2 g L) (fun (r : Int32) (g1 : Nat → Nat → Int32) (L1 : Nat → Nat → Int64) => zI XT g1 ∧ g1 0 13 = g0 0 13 ∧ (0 ≤ (Int32.toInt r)))
    unfold fX1_latest_8_s4
    have b1 : 0 ≤ (Int32.toInt (g 1 2)) ∧ (Int32.toInt (g 1 2)) ≤ 12 := hI 1 2 0 12 rfl
    refine Ex.ite (fun c2 => ?_) (fun c2 => ?_)
    ·
      have c2 := icc_le (m := (Int32.toInt (g 1 2))) (n := (Int32.toInt v2)) rfl rfl c2
      exact Ex.ret ⟨hI, k0_0, (by omega)⟩
    ·
      have c2 := icc_nle (m := (Int32.toInt (g 1 2))) (n := (Int32.toInt v2)) rfl rfl c2
      refine Ex.cb (sX1_late_8 fu hfu v2 g L hI (by omega)) (fun x3 g4 L5 hq7 => ?_)
      obtain ⟨hI, kk0⟩ := hq7
      have hI : zI XT g4 := hI
      have k0_0 : g4 0 13 = g0 0 13 := kk0.trans k0_0
      generalize z8q : (if v1 < x3 then x3 else v1) = z8
      have b9 := ic_max (x := v1) (y := x3) (m := (Int32.toInt v1)) (n := (Int32.toInt x3)) rfl rfl
      rw [z8q] at b9
      refine Ex.lti (fun x10 x10e x10i => ?_)
      generalize z11q : (v2 + 1) = z11
      have e12 : (Int32.toInt z11) = (Int32.toInt v2) + 1 := by rw [← z11q]; exact ic_addc rfl (by decide) (by omega) (by omega)
      exact ih4 (x10, z11, g4, L5) ⟨(show (0 ≤ (Int32.toInt x10)) from by omega), (show (0 ≤ (Int32.toInt z11) ∧ (Int32.toInt z11) ≤ 12) from by omega), hI, k0_0⟩ (by show 13 - (Int32.toInt z11) < _; omega) (by omega)
  exact lp4 0 0 g0 L0 (by decide) (by decide) hI k0_0
set_option maxHeartbeats 4000000 in
set_option maxRecDepth 100000 in
theorem sX1_begunLater_8 (fu : Nat) (hfu : 1099511627776 ≤ fu) (g0 : Nat → Nat → Int32) (L0 : Nat → Nat → Int64) (hI : zI XT g0) : Ex (fX1_begunLater_8 fu g0 L0) (fun (r : Int32) (g1 : Nat → Nat → Int32) (L1 : Nat → Nat → Int64) => zI XT g1 ∧ g1 0 13 = g0 0 13) := by
  have k0_0 : g0 0 13 = g0 0 13 := rfl
  unfold fX1_begunLater_8
  have lp4 : ∀ (v1 : Int32) (v2 : Int32) (g : Nat → Nat → Int32) (L : Nat → Nat → Int64), (0 ≤ (Int32.toInt v2) ∧ (Int32.toInt v2) ≤ 12) → zI XT g → g 0 13 = g0 0 13 → Ex (fX1_begunLater_8_l4 fu v1 v2 g L) (fun (r : Int32) (g1 : Nat → Nat → Int32) (L1 : Nat → Nat → Int64) => zI XT g1 ∧ g1 0 13 = g0 0 13) := by
    intro v1 v2 g L hb_v2 hI k0_0
    unfold fX1_begunLater_8_l4
    refine Ex.loop (fun v => ((0 ≤ (Int32.toInt (v.2.1)) ∧ (Int32.toInt (v.2.1)) ≤ 12)) ∧ (zI XT (v.2.2.1)) ∧ ((v.2.2.1) 0 13 = g0 0 13)) (fun v => 13 - (Int32.toInt (v.2.1))) (by omega) (by show 13 - (Int32.toInt v2) < (fu : Int); omega) ⟨hb_v2, hI, k0_0⟩ (fun k4 v hv ih4 => ?_)
    obtain ⟨v1, v2, g, L⟩ := v
    obtain ⟨hb_v2, hI, k0_0⟩ := hv
    have hb_v2 : (0 ≤ (Int32.toInt v2) ∧ (Int32.toInt v2) ≤ 12) := hb_v2
    have hI : zI XT g := hI
    have k0_0 : g 0 13 = g0 0 13 := k0_0
    have ih4 : ∀ v' : Int32 × Int32 × (Nat → Nat → Int32) × (Nat → Nat → Int64), (((0 ≤ (Int32.toInt (v'.2.1)) ∧ (Int32.toInt (v'.2.1)) ≤ 12)) ∧ (zI XT (v'.2.2.1)) ∧ ((v'.2.2.1) 0 13 = g0 0 13)) → 13 - (Int32.toInt (v'.2.1)) < 13 - (Int32.toInt v2) → 0 < 13 - (Int32.toInt v2) → Ex (k4 v') (fun (r : Int32) (g1 : Nat → Nat → Int32) (L1 : Nat → Nat → Int64) => zI XT g1 ∧ g1 0 13 = g0 0 13) := ih4
    show Ex (fX1_begunLater_8_s4 fu k4 v1 v2 g L) (fun (r : Int32) (g1 : Nat → Nat → Int32) (L1 : Nat → Nat → Int64) => zI XT g1 ∧ g1 0 13 = g0 0 13)
    unfold fX1_begunLater_8_s4
    have b1 : 0 ≤ (Int32.toInt (g 1 2)) ∧ (Int32.toInt (g 1 2)) ≤ 12 := hI 1 2 0 12 rfl
    refine Ex.ite (fun c2 => ?_) (fun c2 => ?_)
    ·
      have c2 := icc_le (m := (Int32.toInt (g 1 2))) (n := (Int32.toInt v2)) rfl rfl c2
      exact Ex.ret ⟨hI, k0_0⟩
    ·
      have c2 := icc_nle (m := (Int32.toInt (g 1 2))) (n := (Int32.toInt v2)) rfl rfl c2
      refine Ex.ck (by omega) (by omega) ?_
      refine Ex.ck (by omega) (by omega) ?_
      refine Ex.ltn (fun q3 q3e => ?_)
      have q3b : 57 ≤ q3 ∧ q3 < 69 := by have := Nat.mod_lt (Int32.toNatClampNeg v2) (show 12 > 0 by decide); omega
      have J42 : ∀ (t0 : Int32) (t1 : Int32) (g : Nat → Nat → Int32) (L : Nat → Nat → Int64), (0 ≤ (Int32.toInt v2) ∧ (Int32.toInt v2) ≤ 11) → (0 ≤ (Int32.toInt t0) ∧ (Int32.toInt t0) ≤ 1) → zI XT g → g 0 13 = g0 0 13 → Ex (fX1_begunLater_8_p42 fu k4 v2 t0 t1 g L) (fun (r : Int32) (g1 : Nat → Nat → Int32) (L1 : Nat → Nat → Int64) => zI XT g1 ∧ g1 0 13 = g0 0 13) := by
        intro t0 t1 g L hb_v2 hb_t0 hI k0_0
        unfold fX1_begunLater_8_p42
        generalize z4q : (t1 + t0) = z4
        refine Ex.lti (fun x5 x5e x5i => ?_)
        generalize z6q : (v2 + 1) = z6
        have e7 : (Int32.toInt z6) = (Int32.toInt v2) + 1 := by rw [← z6q]; exact ic_addc rfl (by decide) (by omega) (by omega)
        exact ih4 (x5, z6, g, L) ⟨(show (0 ≤ (Int32.toInt z6) ∧ (Int32.toInt z6) ≤ 12) from by omega), hI, k0_0⟩ (by show 13 - (Int32.toInt z6) < _; omega) (by omega)
      refine Ex.ite (fun c8 => ?_) (fun c8 => ?_)
      ·
        have c8 := icc_le (m := (Int32.toInt (g 43 (Int32.toNatClampNeg v2)))) (n := (Int32.toInt (g q3 3))) rfl rfl c8
        exact J42 0 v1 g L (by omega) (by decide) hI k0_0
      ·
        have c8 := icc_nle (m := (Int32.toInt (g 43 (Int32.toNatClampNeg v2)))) (n := (Int32.toInt (g q3 3))) rfl rfl c8
        exact J42 1 v1 g L (by omega) (by decide) hI k0_0
  exact lp4 0 0 g0 L0 (by decide) hI k0_0
set_option maxHeartbeats 4000000 in
set_option maxRecDepth 100000 in
theorem sX1_onBits_8 (fu : Nat) (hfu : 1099511627776 ≤ fu) (p1 : Int32) (g0 : Nat → Nat → Int32) (L0 : Nat → Nat → Int64) (hI : zI XT g0) : Ex (fX1_onBits_8 fu p1 g0 L0) (fun (r : Int32) (g1 : Nat → Nat → Int32) (L1 : Nat → Nat → Int64) => zI XT g1 ∧ g1 0 13 = g0 0 13) := by
  have k0_0 : g0 0 13 = g0 0 13 := rfl
  unfold fX1_onBits_8
  have lp4 : ∀ (v1 : Int32) (v2 : Int32) (v3 : Int32) (g : Nat → Nat → Int32) (L : Nat → Nat → Int64), (0 ≤ (Int32.toInt v3) ∧ (Int32.toInt v3) ≤ 12) → zI XT g → g 0 13 = g0 0 13 → Ex (fX1_onBits_8_l4 fu v1 v2 v3 g L) (fun (r : Int32) (g1 : Nat → Nat → Int32) (L1 : Nat → Nat → Int64) => zI XT g1 ∧ g1 0 13 = g0 0 13) := by
    intro v1 v2 v3 g L hb_v3 hI k0_0
    unfold fX1_onBits_8_l4
    refine Ex.loop (fun v => ((0 ≤ (Int32.toInt (v.2.1)) ∧ (Int32.toInt (v.2.1)) ≤ 12)) ∧ (zI XT (v.2.2.1)) ∧ ((v.2.2.1) 0 13 = g0 0 13)) (fun v => 13 - (Int32.toInt (v.2.1))) (by omega) (by show 13 - (Int32.toInt v3) < (fu : Int); omega) ⟨hb_v3, hI, k0_0⟩ (fun k4 v hv ih4 => ?_)
    obtain ⟨v2, v3, g, L⟩ := v
    obtain ⟨hb_v3, hI, k0_0⟩ := hv
    have hb_v3 : (0 ≤ (Int32.toInt v3) ∧ (Int32.toInt v3) ≤ 12) := hb_v3
    have hI : zI XT g := hI
    have k0_0 : g 0 13 = g0 0 13 := k0_0
    have ih4 : ∀ v' : Int32 × Int32 × (Nat → Nat → Int32) × (Nat → Nat → Int64), (((0 ≤ (Int32.toInt (v'.2.1)) ∧ (Int32.toInt (v'.2.1)) ≤ 12)) ∧ (zI XT (v'.2.2.1)) ∧ ((v'.2.2.1) 0 13 = g0 0 13)) → 13 - (Int32.toInt (v'.2.1)) < 13 - (Int32.toInt v3) → 0 < 13 - (Int32.toInt v3) → Ex (k4 v') (fun (r : Int32) (g1 : Nat → Nat → Int32) (L1 : Nat → Nat → Int64) => zI XT g1 ∧ g1 0 13 = g0 0 13) := ih4
    show Ex (fX1_onBits_8_s4 fu v1 k4 v2 v3 g L) (fun (r : Int32) (g1 : Nat → Nat → Int32) (L1 : Nat → Nat → Int64) => zI XT g1 ∧ g1 0 13 = g0 0 13)
    unfold fX1_onBits_8_s4
    have b1 : 0 ≤ (Int32.toInt (g 1 2)) ∧ (Int32.toInt (g 1 2)) ≤ 12 := hI 1 2 0 12 rfl
    refine Ex.ite (fun c2 => ?_) (fun c2 => ?_)
    ·
      have c2 := icc_le (m := (Int32.toInt (g 1 2))) (n := (Int32.toInt v3)) rfl rfl c2
      exact Ex.ret ⟨hI, k0_0⟩
    ·
      have c2 := icc_nle (m := (Int32.toInt (g 1 2))) (n := (Int32.toInt v3)) rfl rfl c2
      refine Ex.ck (by omega) (by omega) ?_
      have J41 : ∀ (v2 : Int32) (g : Nat → Nat → Int32) (L : Nat → Nat → Int64), (0 ≤ (Int32.toInt v3) ∧ (Int32.toInt v3) ≤ 11) → zI XT g → g 0 13 = g0 0 13 → Ex (fX1_onBits_8_p41 fu k4 v1 v2 v3 g L) (fun (r : Int32) (g1 : Nat → Nat → Int32) (L1 : Nat → Nat → Int64) => zI XT g1 ∧ g1 0 13 = g0 0 13) := by
        intro v2 g L hb_v3 hI k0_0
        unfold fX1_onBits_8_p41
        generalize z3q : (v3 + 1) = z3
        have e4 : (Int32.toInt z3) = (Int32.toInt v3) + 1 := by rw [← z3q]; exact ic_addc rfl (by decide) (by omega) (by omega)
        exact ih4 (v2, z3, g, L) ⟨(show (0 ≤ (Int32.toInt z3) ∧ (Int32.toInt z3) ≤ 12) from by omega), hI, k0_0⟩ (by show 13 - (Int32.toInt z3) < _; omega) (by omega)
      refine Ex.ite (fun c5 => ?_) (fun c5 => ?_)
      ·
        have c5 := icc_lt (m := (Int32.toInt v1)) (n := (Int32.toInt (g 43 (Int32.toNatClampNeg v3)))) rfl rfl c5
        exact J41 v2 g L (by omega) hI k0_0
      ·
        have c5 := icc_nlt (m := (Int32.toInt v1)) (n := (Int32.toInt (g 43 (Int32.toNatClampNeg v3)))) rfl rfl c5
        refine Ex.ck (by omega) (by omega) ?_
        refine Ex.ite (fun c6 => ?_) (fun c6 => ?_)
        ·
          have c6 := icc_le (m := (Int32.toInt (g 44 (Int32.toNatClampNeg v3)))) (n := (Int32.toInt v1)) rfl rfl c6
          exact J41 v2 g L (by omega) hI k0_0
        ·
          have c6 := icc_nle (m := (Int32.toInt (g 44 (Int32.toNatClampNeg v3)))) (n := (Int32.toInt v1)) rfl rfl c6
          generalize z7q : ((1 : Int32) <<< ((v3 : Int32) &&& 31) : Int32) = z7
          generalize z8q : (v2 ||| z7) = z8
          refine Ex.lti (fun x9 x9e x9i => ?_)
          exact J41 x9 g L (by omega) hI k0_0
  exact lp4 p1 0 0 g0 L0 (by decide) hI k0_0
set_option maxHeartbeats 4000000 in
set_option maxRecDepth 100000 in
theorem sX1_clashOf_8 (fu : Nat) (hfu : 1099511627776 ≤ fu) (p1 : Int32) (p2 : Int32) (g0 : Nat → Nat → Int32) (L0 : Nat → Nat → Int64) (hI : zI XT g0) (hp1 : (0 ≤ (Int32.toInt p1) ∧ (Int32.toInt p1) ≤ 11)) (hp2 : (0 ≤ (Int32.toInt p2) ∧ (Int32.toInt p2) ≤ 11)) : Ex (fX1_clashOf_8 fu p1 p2 g0 L0) (fun (r : Int32) (g1 : Nat → Nat → Int32) (L1 : Nat → Nat → Int64) => zI XT g1 ∧ g1 0 13 = g0 0 13) := by
  have k0_0 : g0 0 13 = g0 0 13 := rfl
  unfold fX1_clashOf_8
  refine Ex.ck (by omega) (by omega) ?_
  refine Ex.ck (by omega) (by omega) ?_
  generalize z1q : (if (g0 43 (Int32.toNatClampNeg p1)) < (g0 43 (Int32.toNatClampNeg p2)) then (g0 43 (Int32.toNatClampNeg p2)) else (g0 43 (Int32.toNatClampNeg p1))) = z1
  have b2 := ic_max (x := (g0 43 (Int32.toNatClampNeg p1))) (y := (g0 43 (Int32.toNatClampNeg p2))) (m := (Int32.toInt (g0 43 (Int32.toNatClampNeg p1)))) (n := (Int32.toInt (g0 43 (Int32.toNatClampNeg p2)))) rfl rfl
  rw [z1q] at b2
  refine Ex.lti (fun x3 x3e x3i => ?_)
  refine Ex.ck (by omega) (by omega) ?_
  refine Ex.ck (by omega) (by omega) ?_
  generalize z4q : (if (g0 44 (Int32.toNatClampNeg p2)) < (g0 44 (Int32.toNatClampNeg p1)) then (g0 44 (Int32.toNatClampNeg p2)) else (g0 44 (Int32.toNatClampNeg p1))) = z4
  have b5 := ic_min (x := (g0 44 (Int32.toNatClampNeg p1))) (y := (g0 44 (Int32.toNatClampNeg p2))) (m := (Int32.toInt (g0 44 (Int32.toNatClampNeg p1)))) (n := (Int32.toInt (g0 44 (Int32.toNatClampNeg p2)))) rfl rfl
  rw [z4q] at b5
  have J40 : ∀ (v1 : Int32) (v2 : Int32) (v3 : Int32) (t0 : Int32) (g : Nat → Nat → Int32) (L : Nat → Nat → Int64), (0 ≤ (Int32.toInt v1) ∧ (Int32.toInt v1) ≤ 11) → (0 ≤ (Int32.toInt v2) ∧ (Int32.toInt v2) ≤ 11) → (0 ≤ (Int32.toInt t0) ∧ (Int32.toInt t0) ≤ 1) → zI XT g → g 0 13 = g0 0 13 → Ex (fX1_clashOf_8_p40 fu v1 v2 v3 t0 g L) (fun (r : Int32) (g1 : Nat → Nat → Int32) (L1 : Nat → Nat → Int64) => zI XT g1 ∧ g1 0 13 = g0 0 13) := by
    intro v1 v2 v3 t0 g L hb_v1 hb_v2 hb_t0 hI k0_0
    unfold fX1_clashOf_8_p40
    have J73 : ∀ (t0 : Int32) (g : Nat → Nat → Int32) (L : Nat → Nat → Int64), zI XT g → g 0 13 = g0 0 13 → Ex (fX1_clashOf_8_p73 fu t0 g L) (fun (r : Int32) (g1 : Nat → Nat → Int32) (L1 : Nat → Nat → Int64) => zI XT g1 ∧ g1 0 13 = g0 0 13) := by
      intro t0 g L hI k0_0
      unfold fX1_clashOf_8_p73
      exact Ex.ret ⟨hI, k0_0⟩
    have J72 : ∀ (g : Nat → Nat → Int32) (L : Nat → Nat → Int64), zI XT g → g 0 13 = g0 0 13 → Ex (fX1_clashOf_8_p72 fu g L) (fun (r : Int32) (g1 : Nat → Nat → Int32) (L1 : Nat → Nat → Int64) => zI XT g1 ∧ g1 0 13 = g0 0 13) := by
      intro g L hI k0_0
      unfold fX1_clashOf_8_p72
      exact J73 (-1) g L hI k0_0
    refine Ex.ite (fun c6 => ?_) (fun c6 => ?_)
    ·
      have c6 := icc_eq (m := (Int32.toInt t0)) (n := 0) rfl (by decide) c6
      exact J72 g L hI k0_0
    ·
      have c6 := icc_neq (m := (Int32.toInt t0)) (n := 0) rfl (by decide) c6
      refine Ex.ck (by omega) (by omega) ?_
      refine Ex.ck (by omega) (by omega) ?_
      refine Ex.ite (fun c7 => ?_) (fun c7 => ?_)
      ·
        have c7 := icc_eq (m := (Int32.toInt (g 27 (Int32.toNatClampNeg v1)))) (n := (Int32.toInt (g 27 (Int32.toNatClampNeg v2)))) rfl rfl c7
        exact J73 v3 g L hI k0_0
      ·
        have c7 := icc_neq (m := (Int32.toInt (g 27 (Int32.toNatClampNeg v1)))) (n := (Int32.toInt (g 27 (Int32.toNatClampNeg v2)))) rfl rfl c7
        exact J72 g L hI k0_0
  refine Ex.ite (fun c8 => ?_) (fun c8 => ?_)
  ·
    have c8 := icc_le (m := (Int32.toInt z4)) (n := (Int32.toInt x3)) rfl rfl c8
    exact J40 p1 p2 x3 0 g0 L0 (by omega) (by omega) (by decide) hI k0_0
  ·
    have c8 := icc_nle (m := (Int32.toInt z4)) (n := (Int32.toInt x3)) rfl rfl c8
    exact J40 p1 p2 x3 1 g0 L0 (by omega) (by omega) (by decide) hI k0_0
set_option maxHeartbeats 4000000 in
set_option maxRecDepth 100000 in
theorem sX1_clashes_8 (fu : Nat) (hfu : 1099511627776 ≤ fu) (g0 : Nat → Nat → Int32) (L0 : Nat → Nat → Int64) (hI : zI XT g0) : Ex (fX1_clashes_8 fu g0 L0) (fun (r : Int32) (g1 : Nat → Nat → Int32) (L1 : Nat → Nat → Int64) => zI XT g1 ∧ g1 0 13 = g0 0 13) := by
  have k0_0 : g0 0 13 = g0 0 13 := rfl
  unfold fX1_clashes_8
  have lp4 : ∀ (v1 : Int32) (v2 : Int32) (g : Nat → Nat → Int32) (L : Nat → Nat → Int64), (0 ≤ (Int32.toInt v2) ∧ (Int32.toInt v2) ≤ 12) → zI XT g → g 0 13 = g0 0 13 → Ex (fX1_clashes_8_l4 fu v1 v2 g L) (fun (r : Int32) (g1 : Nat → Nat → Int32) (L1 : Nat → Nat → Int64) => zI XT g1 ∧ g1 0 13 = g0 0 13) := by
    intro v1 v2 g L hb_v2 hI k0_0
    unfold fX1_clashes_8_l4
    refine Ex.loop (fun v => ((0 ≤ (Int32.toInt (v.2.1)) ∧ (Int32.toInt (v.2.1)) ≤ 12)) ∧ (zI XT (v.2.2.1)) ∧ ((v.2.2.1) 0 13 = g0 0 13)) (fun v => 13 - (Int32.toInt (v.2.1))) (by omega) (by show 13 - (Int32.toInt v2) < (fu : Int); omega) ⟨hb_v2, hI, k0_0⟩ (fun k4 v hv ih4 => ?_)
    obtain ⟨v1, v2, g, L⟩ := v
    obtain ⟨hb_v2, hI, k0_0⟩ := hv
    have hb_v2 : (0 ≤ (Int32.toInt v2) ∧ (Int32.toInt v2) ≤ 12) := hb_v2
    have hI : zI XT g := hI
    have k0_0 : g 0 13 = g0 0 13 := k0_0
    have ih4 : ∀ v' : Int32 × Int32 × (Nat → Nat → Int32) × (Nat → Nat → Int64), (((0 ≤ (Int32.toInt (v'.2.1)) ∧ (Int32.toInt (v'.2.1)) ≤ 12)) ∧ (zI XT (v'.2.2.1)) ∧ ((v'.2.2.1) 0 13 = g0 0 13)) → 13 - (Int32.toInt (v'.2.1)) < 13 - (Int32.toInt v2) → 0 < 13 - (Int32.toInt v2) → Ex (k4 v') (fun (r : Int32) (g1 : Nat → Nat → Int32) (L1 : Nat → Nat → Int64) => zI XT g1 ∧ g1 0 13 = g0 0 13) := ih4
    show Ex (fX1_clashes_8_s4 fu k4 v1 v2 g L) (fun (r : Int32) (g1 : Nat → Nat → Int32) (L1 : Nat → Nat → Int64) => zI XT g1 ∧ g1 0 13 = g0 0 13)
    unfold fX1_clashes_8_s4
    have b1 : 0 ≤ (Int32.toInt (g 1 2)) ∧ (Int32.toInt (g 1 2)) ≤ 12 := hI 1 2 0 12 rfl
    refine Ex.ite (fun c2 => ?_) (fun c2 => ?_)
    ·
      have c2 := icc_le (m := (Int32.toInt (g 1 2))) (n := (Int32.toInt v2)) rfl rfl c2
      exact Ex.ret ⟨hI, k0_0⟩
    ·
      have c2 := icc_nle (m := (Int32.toInt (g 1 2))) (n := (Int32.toInt v2)) rfl rfl c2
      generalize z3q : (v2 + 1) = z3
      have e4 : (Int32.toInt z3) = (Int32.toInt v2) + 1 := by rw [← z3q]; exact ic_addc rfl (by decide) (by omega) (by omega)
      refine Ex.lti (fun x5 x5e x5i => ?_)
      have lp19 : ∀ (v1 : Int32) (v3 : Int32) (g : Nat → Nat → Int32) (L : Nat → Nat → Int64), (0 ≤ (Int32.toInt v2) ∧ (Int32.toInt v2) ≤ 11) → (1 ≤ (Int32.toInt v3) ∧ (Int32.toInt v3) ≤ 12) → zI XT g → g 0 13 = g0 0 13 → Ex (fX1_clashes_8_l19 fu k4 v2 v1 v3 g L) (fun (r : Int32) (g1 : Nat → Nat → Int32) (L1 : Nat → Nat → Int64) => zI XT g1 ∧ g1 0 13 = g0 0 13) := by
        intro v1 v3 g L hb_v2 hb_v3 hI k0_0
        unfold fX1_clashes_8_l19
        refine Ex.loop (fun v => ((0 ≤ (Int32.toInt v2) ∧ (Int32.toInt v2) ≤ 11)) ∧ ((1 ≤ (Int32.toInt (v.2.1)) ∧ (Int32.toInt (v.2.1)) ≤ 12)) ∧ (zI XT (v.2.2.1)) ∧ ((v.2.2.1) 0 13 = g0 0 13)) (fun v => 13 - (Int32.toInt (v.2.1))) (by omega) (by show 13 - (Int32.toInt v3) < (fu : Int); omega) ⟨hb_v2, hb_v3, hI, k0_0⟩ (fun k19 v hv ih19 => ?_)
        obtain ⟨v1, v3, g, L⟩ := v
        obtain ⟨hb_v2, hb_v3, hI, k0_0⟩ := hv
        have hb_v2 : (0 ≤ (Int32.toInt v2) ∧ (Int32.toInt v2) ≤ 11) := hb_v2
        have hb_v3 : (1 ≤ (Int32.toInt v3) ∧ (Int32.toInt v3) ≤ 12) := hb_v3
        have hI : zI XT g := hI
        have k0_0 : g 0 13 = g0 0 13 := k0_0
        have ih19 : ∀ v' : Int32 × Int32 × (Nat → Nat → Int32) × (Nat → Nat → Int64), (((0 ≤ (Int32.toInt v2) ∧ (Int32.toInt v2) ≤ 11)) ∧ ((1 ≤ (Int32.toInt (v'.2.1)) ∧ (Int32.toInt (v'.2.1)) ≤ 12)) ∧ (zI XT (v'.2.2.1)) ∧ ((v'.2.2.1) 0 13 = g0 0 13)) → 13 - (Int32.toInt (v'.2.1)) < 13 - (Int32.toInt v3) → 0 < 13 - (Int32.toInt v3) → Ex (k19 v') (fun (r : Int32) (g1 : Nat → Nat → Int32) (L1 : Nat → Nat → Int64) => zI XT g1 ∧ g1 0 13 = g0 0 13) := ih19
        show Ex (fX1_clashes_8_s19 fu k4 v2 k19 v1 v3 g L) (fun (r : Int32) (g1 : Nat → Nat → Int32) (L1 : Nat → Nat → Int64) => zI XT g1 ∧ g1 0 13 = g0 0 13)
        unfold fX1_clashes_8_s19
        have b6 : 0 ≤ (Int32.toInt (g 1 2)) ∧ (Int32.toInt (g 1 2)) ≤ 12 := hI 1 2 0 12 rfl
        refine Ex.ite (fun c7 => ?_) (fun c7 => ?_)
        ·
          have c7 := icc_le (m := (Int32.toInt (g 1 2))) (n := (Int32.toInt v3)) rfl rfl c7
          generalize z8q : (v2 + 1) = z8
          have e9 : (Int32.toInt z8) = (Int32.toInt v2) + 1 := by rw [← z8q]; exact ic_addc rfl (by decide) (by omega) (by omega)
          exact ih4 (v1, z8, g, L) ⟨(show (0 ≤ (Int32.toInt z8) ∧ (Int32.toInt z8) ≤ 12) from by omega), hI, k0_0⟩ (by show 13 - (Int32.toInt z8) < _; omega) (by omega)
        ·
          have c7 := icc_nle (m := (Int32.toInt (g 1 2))) (n := (Int32.toInt v3)) rfl rfl c7
          refine Ex.cb (sX1_clashOf_8 fu hfu v2 v3 g L hI (by omega) (by omega)) (fun x10 g11 L12 hq14 => ?_)
          obtain ⟨hI, kk0⟩ := hq14
          have hI : zI XT g11 := hI
          have k0_0 : g11 0 13 = g0 0 13 := kk0.trans k0_0
          have J46 : ∀ (t0 : Int32) (t1 : Int32) (g : Nat → Nat → Int32) (L : Nat → Nat → Int64), (0 ≤ (Int32.toInt v2) ∧ (Int32.toInt v2) ≤ 11) → (1 ≤ (Int32.toInt v3) ∧ (Int32.toInt v3) ≤ 11) → (0 ≤ (Int32.toInt t0) ∧ (Int32.toInt t0) ≤ 1) → zI XT g → g 0 13 = g0 0 13 → Ex (fX1_clashes_8_p46 fu k4 k19 v2 v3 t0 t1 g L) (fun (r : Int32) (g1 : Nat → Nat → Int32) (L1 : Nat → Nat → Int64) => zI XT g1 ∧ g1 0 13 = g0 0 13) := by
            intro t0 t1 g L hb_v2 hb_v3 hb_t0 hI k0_0
            unfold fX1_clashes_8_p46
            generalize z15q : (t1 + t0) = z15
            refine Ex.lti (fun x16 x16e x16i => ?_)
            generalize z17q : (v3 + 1) = z17
            have e18 : (Int32.toInt z17) = (Int32.toInt v3) + 1 := by rw [← z17q]; exact ic_addc rfl (by decide) (by omega) (by omega)
            exact ih19 (x16, z17, g, L) ⟨(show (0 ≤ (Int32.toInt v2) ∧ (Int32.toInt v2) ≤ 11) from by omega), (show (1 ≤ (Int32.toInt z17) ∧ (Int32.toInt z17) ≤ 12) from by omega), hI, k0_0⟩ (by show 13 - (Int32.toInt z17) < _; omega) (by omega)
          refine Ex.ite (fun c19 => ?_) (fun c19 => ?_)
          ·
            have c19 := icc_eq (m := (Int32.toInt x10)) (n := (-1)) rfl (by decide) c19
            exact J46 0 v1 g11 L12 (by omega) (by omega) (by decide) hI k0_0
          ·
            have c19 := icc_neq (m := (Int32.toInt x10)) (n := (-1)) rfl (by decide) c19
            exact J46 1 v1 g11 L12 (by omega) (by omega) (by decide) hI k0_0
      exact lp19 v1 x5 g L (by omega) (by omega) hI k0_0
  exact lp4 0 0 g0 L0 (by decide) hI k0_0
set_option maxHeartbeats 4000000 in
set_option maxRecDepth 100000 in
theorem sX1_firstClash_8 (fu : Nat) (hfu : 1099511627776 ≤ fu) (g0 : Nat → Nat → Int32) (L0 : Nat → Nat → Int64) (hI : zI XT g0) : Ex (fX1_firstClash_8 fu g0 L0) (fun (r : Int32) (g1 : Nat → Nat → Int32) (L1 : Nat → Nat → Int64) => zI XT g1 ∧ g1 0 13 = g0 0 13) := by
  have k0_0 : g0 0 13 = g0 0 13 := rfl
  unfold fX1_firstClash_8
  have lp4 : ∀ (v1 : Int32) (v2 : Int32) (g : Nat → Nat → Int32) (L : Nat → Nat → Int64), (0 ≤ (Int32.toInt v2) ∧ (Int32.toInt v2) ≤ 12) → zI XT g → g 0 13 = g0 0 13 → Ex (fX1_firstClash_8_l4 fu v1 v2 g L) (fun (r : Int32) (g1 : Nat → Nat → Int32) (L1 : Nat → Nat → Int64) => zI XT g1 ∧ g1 0 13 = g0 0 13) := by
    intro v1 v2 g L hb_v2 hI k0_0
    unfold fX1_firstClash_8_l4
    refine Ex.loop (fun v => ((0 ≤ (Int32.toInt (v.2.1)) ∧ (Int32.toInt (v.2.1)) ≤ 12)) ∧ (zI XT (v.2.2.1)) ∧ ((v.2.2.1) 0 13 = g0 0 13)) (fun v => 13 - (Int32.toInt (v.2.1))) (by omega) (by show 13 - (Int32.toInt v2) < (fu : Int); omega) ⟨hb_v2, hI, k0_0⟩ (fun k4 v hv ih4 => ?_)
    obtain ⟨v1, v2, g, L⟩ := v
    obtain ⟨hb_v2, hI, k0_0⟩ := hv
    have hb_v2 : (0 ≤ (Int32.toInt v2) ∧ (Int32.toInt v2) ≤ 12) := hb_v2
    have hI : zI XT g := hI
    have k0_0 : g 0 13 = g0 0 13 := k0_0
    have ih4 : ∀ v' : Int32 × Int32 × (Nat → Nat → Int32) × (Nat → Nat → Int64), (((0 ≤ (Int32.toInt (v'.2.1)) ∧ (Int32.toInt (v'.2.1)) ≤ 12)) ∧ (zI XT (v'.2.2.1)) ∧ ((v'.2.2.1) 0 13 = g0 0 13)) → 13 - (Int32.toInt (v'.2.1)) < 13 - (Int32.toInt v2) → 0 < 13 - (Int32.toInt v2) → Ex (k4 v') (fun (r : Int32) (g1 : Nat → Nat → Int32) (L1 : Nat → Nat → Int64) => zI XT g1 ∧ g1 0 13 = g0 0 13) := ih4
    show Ex (fX1_firstClash_8_s4 fu k4 v1 v2 g L) (fun (r : Int32) (g1 : Nat → Nat → Int32) (L1 : Nat → Nat → Int64) => zI XT g1 ∧ g1 0 13 = g0 0 13)
    unfold fX1_firstClash_8_s4
    have b1 : 0 ≤ (Int32.toInt (g 1 2)) ∧ (Int32.toInt (g 1 2)) ≤ 12 := hI 1 2 0 12 rfl
    refine Ex.ite (fun c2 => ?_) (fun c2 => ?_)
    ·
      have c2 := icc_le (m := (Int32.toInt (g 1 2))) (n := (Int32.toInt v2)) rfl rfl c2
      exact Ex.ret ⟨hI, k0_0⟩
    ·
      have c2 := icc_nle (m := (Int32.toInt (g 1 2))) (n := (Int32.toInt v2)) rfl rfl c2
      generalize z3q : (v2 + 1) = z3
      have e4 : (Int32.toInt z3) = (Int32.toInt v2) + 1 := by rw [← z3q]; exact ic_addc rfl (by decide) (by omega) (by omega)
      refine Ex.lti (fun x5 x5e x5i => ?_)
      have lp19 : ∀ (v1 : Int32) (v3 : Int32) (g : Nat → Nat → Int32) (L : Nat → Nat → Int64), (0 ≤ (Int32.toInt v2) ∧ (Int32.toInt v2) ≤ 11) → (1 ≤ (Int32.toInt v3) ∧ (Int32.toInt v3) ≤ 12) → zI XT g → g 0 13 = g0 0 13 → Ex (fX1_firstClash_8_l19 fu k4 v2 v1 v3 g L) (fun (r : Int32) (g1 : Nat → Nat → Int32) (L1 : Nat → Nat → Int64) => zI XT g1 ∧ g1 0 13 = g0 0 13) := by
        intro v1 v3 g L hb_v2 hb_v3 hI k0_0
        unfold fX1_firstClash_8_l19
        refine Ex.loop (fun v => ((0 ≤ (Int32.toInt v2) ∧ (Int32.toInt v2) ≤ 11)) ∧ ((1 ≤ (Int32.toInt (v.2.1)) ∧ (Int32.toInt (v.2.1)) ≤ 12)) ∧ (zI XT (v.2.2.1)) ∧ ((v.2.2.1) 0 13 = g0 0 13)) (fun v => 13 - (Int32.toInt (v.2.1))) (by omega) (by show 13 - (Int32.toInt v3) < (fu : Int); omega) ⟨hb_v2, hb_v3, hI, k0_0⟩ (fun k19 v hv ih19 => ?_)
        obtain ⟨v1, v3, g, L⟩ := v
        obtain ⟨hb_v2, hb_v3, hI, k0_0⟩ := hv
        have hb_v2 : (0 ≤ (Int32.toInt v2) ∧ (Int32.toInt v2) ≤ 11) := hb_v2
        have hb_v3 : (1 ≤ (Int32.toInt v3) ∧ (Int32.toInt v3) ≤ 12) := hb_v3
        have hI : zI XT g := hI
        have k0_0 : g 0 13 = g0 0 13 := k0_0
        have ih19 : ∀ v' : Int32 × Int32 × (Nat → Nat → Int32) × (Nat → Nat → Int64), (((0 ≤ (Int32.toInt v2) ∧ (Int32.toInt v2) ≤ 11)) ∧ ((1 ≤ (Int32.toInt (v'.2.1)) ∧ (Int32.toInt (v'.2.1)) ≤ 12)) ∧ (zI XT (v'.2.2.1)) ∧ ((v'.2.2.1) 0 13 = g0 0 13)) → 13 - (Int32.toInt (v'.2.1)) < 13 - (Int32.toInt v3) → 0 < 13 - (Int32.toInt v3) → Ex (k19 v') (fun (r : Int32) (g1 : Nat → Nat → Int32) (L1 : Nat → Nat → Int64) => zI XT g1 ∧ g1 0 13 = g0 0 13) := ih19
        show Ex (fX1_firstClash_8_s19 fu k4 v2 k19 v1 v3 g L) (fun (r : Int32) (g1 : Nat → Nat → Int32) (L1 : Nat → Nat → Int64) => zI XT g1 ∧ g1 0 13 = g0 0 13)
        unfold fX1_firstClash_8_s19
        have b6 : 0 ≤ (Int32.toInt (g 1 2)) ∧ (Int32.toInt (g 1 2)) ≤ 12 := hI 1 2 0 12 rfl
        refine Ex.ite (fun c7 => ?_) (fun c7 => ?_)
        ·
          have c7 := icc_le (m := (Int32.toInt (g 1 2))) (n := (Int32.toInt v3)) rfl rfl c7
          generalize z8q : (v2 + 1) = z8
          have e9 : (Int32.toInt z8) = (Int32.toInt v2) + 1 := by rw [← z8q]; exact ic_addc rfl (by decide) (by omega) (by omega)
          exact ih4 (v1, z8, g, L) ⟨(show (0 ≤ (Int32.toInt z8) ∧ (Int32.toInt z8) ≤ 12) from by omega), hI, k0_0⟩ (by show 13 - (Int32.toInt z8) < _; omega) (by omega)
        ·
          have c7 := icc_nle (m := (Int32.toInt (g 1 2))) (n := (Int32.toInt v3)) rfl rfl c7
          refine Ex.cb (sX1_clashOf_8 fu hfu v2 v3 g L hI (by omega) (by omega)) (fun x10 g11 L12 hq14 => ?_)
          obtain ⟨hI, kk0⟩ := hq14
          have hI : zI XT g11 := hI
          have k0_0 : g11 0 13 = g0 0 13 := kk0.trans k0_0
          have J58 : ∀ (v1 : Int32) (g : Nat → Nat → Int32) (L : Nat → Nat → Int64), (0 ≤ (Int32.toInt v2) ∧ (Int32.toInt v2) ≤ 11) → (1 ≤ (Int32.toInt v3) ∧ (Int32.toInt v3) ≤ 11) → zI XT g → g 0 13 = g0 0 13 → Ex (fX1_firstClash_8_p58 fu k4 k19 v1 v2 v3 g L) (fun (r : Int32) (g1 : Nat → Nat → Int32) (L1 : Nat → Nat → Int64) => zI XT g1 ∧ g1 0 13 = g0 0 13) := by
            intro v1 g L hb_v2 hb_v3 hI k0_0
            unfold fX1_firstClash_8_p58
            generalize z15q : (v3 + 1) = z15
            have e16 : (Int32.toInt z15) = (Int32.toInt v3) + 1 := by rw [← z15q]; exact ic_addc rfl (by decide) (by omega) (by omega)
            exact ih19 (v1, z15, g, L) ⟨(show (0 ≤ (Int32.toInt v2) ∧ (Int32.toInt v2) ≤ 11) from by omega), (show (1 ≤ (Int32.toInt z15) ∧ (Int32.toInt z15) ≤ 12) from by omega), hI, k0_0⟩ (by show 13 - (Int32.toInt z15) < _; omega) (by omega)
          refine Ex.ite (fun c17 => ?_) (fun c17 => ?_)
          ·
            have c17 := icc_eq (m := (Int32.toInt x10)) (n := (-1)) rfl (by decide) c17
            exact J58 v1 g11 L12 (by omega) (by omega) hI k0_0
          ·
            have c17 := icc_neq (m := (Int32.toInt x10)) (n := (-1)) rfl (by decide) c17
            have J55 : ∀ (v4 : Int32) (g : Nat → Nat → Int32) (L : Nat → Nat → Int64), (0 ≤ (Int32.toInt v2) ∧ (Int32.toInt v2) ≤ 11) → (1 ≤ (Int32.toInt v3) ∧ (Int32.toInt v3) ≤ 11) → zI XT g → g 0 13 = g0 0 13 → Ex (fX1_firstClash_8_p55 fu k4 k19 v2 v3 v4 g L) (fun (r : Int32) (g1 : Nat → Nat → Int32) (L1 : Nat → Nat → Int64) => zI XT g1 ∧ g1 0 13 = g0 0 13) := by
              intro v4 g L hb_v2 hb_v3 hI k0_0
              unfold fX1_firstClash_8_p55
              exact J58 v4 g L (by omega) (by omega) hI k0_0
            refine Ex.ite (fun c18 => ?_) (fun c18 => ?_)
            ·
              have c18 := icc_eq (m := (Int32.toInt v1)) (n := (-1)) rfl (by decide) c18
              exact J55 x10 g11 L12 (by omega) (by omega) hI k0_0
            ·
              have c18 := icc_neq (m := (Int32.toInt v1)) (n := (-1)) rfl (by decide) c18
              refine Ex.ite (fun c19 => ?_) (fun c19 => ?_)
              ·
                have c19 := icc_le (m := (Int32.toInt v1)) (n := (Int32.toInt x10)) rfl rfl c19
                exact J58 v1 g11 L12 (by omega) (by omega) hI k0_0
              ·
                have c19 := icc_nle (m := (Int32.toInt v1)) (n := (Int32.toInt x10)) rfl rfl c19
                exact J55 x10 g11 L12 (by omega) (by omega) hI k0_0
      exact lp19 v1 x5 g L (by omega) (by omega) hI k0_0
  exact lp4 (-1) 0 g0 L0 (by decide) hI k0_0
set_option maxHeartbeats 4000000 in
set_option maxRecDepth 100000 in
theorem sX1_idleMinutes_8 (fu : Nat) (hfu : 1099511627776 ≤ fu) (g0 : Nat → Nat → Int32) (L0 : Nat → Nat → Int64) (hI : zI XT g0) : Ex (fX1_idleMinutes_8 fu g0 L0) (fun (r : Int32) (g1 : Nat → Nat → Int32) (L1 : Nat → Nat → Int64) => zI XT g1 ∧ g1 0 13 = g0 0 13) := by
  have k0_0 : g0 0 13 = g0 0 13 := rfl
  unfold fX1_idleMinutes_8
  have lp4 : ∀ (v1 : Int32) (v2 : Int32) (g : Nat → Nat → Int32) (L : Nat → Nat → Int64), (0 ≤ (Int32.toInt v2) ∧ (Int32.toInt v2) ≤ 12) → zI XT g → g 0 13 = g0 0 13 → Ex (fX1_idleMinutes_8_l4 fu v1 v2 g L) (fun (r : Int32) (g1 : Nat → Nat → Int32) (L1 : Nat → Nat → Int64) => zI XT g1 ∧ g1 0 13 = g0 0 13) := by
    intro v1 v2 g L hb_v2 hI k0_0
    unfold fX1_idleMinutes_8_l4
    refine Ex.loop (fun v => ((0 ≤ (Int32.toInt (v.2.1)) ∧ (Int32.toInt (v.2.1)) ≤ 12)) ∧ (zI XT (v.2.2.1)) ∧ ((v.2.2.1) 0 13 = g0 0 13)) (fun v => 13 - (Int32.toInt (v.2.1))) (by omega) (by show 13 - (Int32.toInt v2) < (fu : Int); omega) ⟨hb_v2, hI, k0_0⟩ (fun k4 v hv ih4 => ?_)
    obtain ⟨v1, v2, g, L⟩ := v
    obtain ⟨hb_v2, hI, k0_0⟩ := hv
    have hb_v2 : (0 ≤ (Int32.toInt v2) ∧ (Int32.toInt v2) ≤ 12) := hb_v2
    have hI : zI XT g := hI
    have k0_0 : g 0 13 = g0 0 13 := k0_0
    have ih4 : ∀ v' : Int32 × Int32 × (Nat → Nat → Int32) × (Nat → Nat → Int64), (((0 ≤ (Int32.toInt (v'.2.1)) ∧ (Int32.toInt (v'.2.1)) ≤ 12)) ∧ (zI XT (v'.2.2.1)) ∧ ((v'.2.2.1) 0 13 = g0 0 13)) → 13 - (Int32.toInt (v'.2.1)) < 13 - (Int32.toInt v2) → 0 < 13 - (Int32.toInt v2) → Ex (k4 v') (fun (r : Int32) (g1 : Nat → Nat → Int32) (L1 : Nat → Nat → Int64) => zI XT g1 ∧ g1 0 13 = g0 0 13) := ih4
    show Ex (fX1_idleMinutes_8_s4 fu k4 v1 v2 g L) (fun (r : Int32) (g1 : Nat → Nat → Int32) (L1 : Nat → Nat → Int64) => zI XT g1 ∧ g1 0 13 = g0 0 13)
    unfold fX1_idleMinutes_8_s4
    have b1 : 0 ≤ (Int32.toInt (g 1 2)) ∧ (Int32.toInt (g 1 2)) ≤ 12 := hI 1 2 0 12 rfl
    refine Ex.ite (fun c2 => ?_) (fun c2 => ?_)
    ·
      have c2 := icc_le (m := (Int32.toInt (g 1 2))) (n := (Int32.toInt v2)) rfl rfl c2
      exact Ex.ret ⟨hI, k0_0⟩
    ·
      have c2 := icc_nle (m := (Int32.toInt (g 1 2))) (n := (Int32.toInt v2)) rfl rfl c2
      refine Ex.ck (by omega) (by omega) ?_
      refine Ex.ltn (fun q3 q3e => ?_)
      have q3b : 57 ≤ q3 ∧ q3 < 69 := by have := Nat.mod_lt (Int32.toNatClampNeg v2) (show 12 > 0 by decide); omega
      have lp28 : ∀ (q3_ : Nat) (v1 : Int32) (v4 : Int32) (g : Nat → Nat → Int32) (L : Nat → Nat → Int64), (0 ≤ (Int32.toInt v2) ∧ (Int32.toInt v2) ≤ 11) → 57 ≤ q3_ → q3_ < 81 → (0 ≤ (Int32.toInt v4) ∧ (Int32.toInt v4) ≤ 6) → zI XT g → g 0 13 = g0 0 13 → Ex (fX1_idleMinutes_8_l28 fu k4 v2 q3_ v1 v4 g L) (fun (r : Int32) (g1 : Nat → Nat → Int32) (L1 : Nat → Nat → Int64) => zI XT g1 ∧ g1 0 13 = g0 0 13) := by
        intro q3_ v1 v4 g L hb_v2 q3_l q3_h hb_v4 hI k0_0
        unfold fX1_idleMinutes_8_l28
        refine Ex.loop (fun v => ((0 ≤ (Int32.toInt v2) ∧ (Int32.toInt v2) ≤ 11)) ∧ (57 ≤ q3_) ∧ (q3_ < 81) ∧ ((0 ≤ (Int32.toInt (v.2.1)) ∧ (Int32.toInt (v.2.1)) ≤ 6)) ∧ (zI XT (v.2.2.1)) ∧ ((v.2.2.1) 0 13 = g0 0 13)) (fun v => 7 - (Int32.toInt (v.2.1))) (by omega) (by show 7 - (Int32.toInt v4) < (fu : Int); omega) ⟨hb_v2, q3_l, q3_h, hb_v4, hI, k0_0⟩ (fun k28 v hv ih28 => ?_)
        obtain ⟨v1, v4, g, L⟩ := v
        obtain ⟨hb_v2, q3_l, q3_h, hb_v4, hI, k0_0⟩ := hv
        have hb_v2 : (0 ≤ (Int32.toInt v2) ∧ (Int32.toInt v2) ≤ 11) := hb_v2
        have q3_l : 57 ≤ q3_ := q3_l
        have q3_h : q3_ < 81 := q3_h
        have hb_v4 : (0 ≤ (Int32.toInt v4) ∧ (Int32.toInt v4) ≤ 6) := hb_v4
        have hI : zI XT g := hI
        have k0_0 : g 0 13 = g0 0 13 := k0_0
        have ih28 : ∀ v' : Int32 × Int32 × (Nat → Nat → Int32) × (Nat → Nat → Int64), (((0 ≤ (Int32.toInt v2) ∧ (Int32.toInt v2) ≤ 11)) ∧ (57 ≤ q3_) ∧ (q3_ < 81) ∧ ((0 ≤ (Int32.toInt (v'.2.1)) ∧ (Int32.toInt (v'.2.1)) ≤ 6)) ∧ (zI XT (v'.2.2.1)) ∧ ((v'.2.2.1) 0 13 = g0 0 13)) → 7 - (Int32.toInt (v'.2.1)) < 7 - (Int32.toInt v4) → 0 < 7 - (Int32.toInt v4) → Ex (k28 v') (fun (r : Int32) (g1 : Nat → Nat → Int32) (L1 : Nat → Nat → Int64) => zI XT g1 ∧ g1 0 13 = g0 0 13) := ih28
        show Ex (fX1_idleMinutes_8_s28 fu k4 v2 q3_ k28 v1 v4 g L) (fun (r : Int32) (g1 : Nat → Nat → Int32) (L1 : Nat → Nat → Int64) => zI XT g1 ∧ g1 0 13 = g0 0 13)
        unfold fX1_idleMinutes_8_s28
        have b4 : 0 ≤ (Int32.toInt (g q3_ 1)) ∧ (Int32.toInt (g q3_ 1)) ≤ 6 := hI q3_ 1 0 6 (xt_les (by omega) (by omega))
        refine Ex.ite (fun c5 => ?_) (fun c5 => ?_)
        ·
          have c5 := icc_le (m := (Int32.toInt (g q3_ 1))) (n := (Int32.toInt v4)) rfl rfl c5
          generalize z6q : (v2 + 1) = z6
          have e7 : (Int32.toInt z6) = (Int32.toInt v2) + 1 := by rw [← z6q]; exact ic_addc rfl (by decide) (by omega) (by omega)
          exact ih4 (v1, z6, g, L) ⟨(show (0 ≤ (Int32.toInt z6) ∧ (Int32.toInt z6) ≤ 12) from by omega), hI, k0_0⟩ (by show 13 - (Int32.toInt z6) < _; omega) (by omega)
        ·
          have c5 := icc_nle (m := (Int32.toInt (g q3_ 1))) (n := (Int32.toInt v4)) rfl rfl c5
          refine Ex.ck (by omega) (by omega) ?_
          have b8 : 0 ≤ (Int32.toInt (g (q3_ + 24) (Int32.toNatClampNeg v4))) ∧ (Int32.toInt (g (q3_ + 24) (Int32.toNatClampNeg v4))) ≤ 11 := hI (q3_ + 24) _ 0 11 (xt_wai (by omega))
          refine Ex.lti (fun x9 x9e x9i => ?_)
          refine Ex.ck (by omega) (by omega) ?_
          refine Ex.cb (sX1_way_8 fu hfu x9 v2 g L hI (by omega) (by omega)) (fun x10 g11 L12 hq14 => ?_)
          obtain ⟨hI, kk0, kk1⟩ := hq14
          have hI : zI XT g11 := hI
          have k0_0 : g11 0 13 = g0 0 13 := kk1.trans k0_0
          generalize z15q : ((g 44 (Int32.toNatClampNeg x9)) + x10) = z15
          refine Ex.ck (by omega) (by omega) ?_
          generalize z16q : (z15 - (g11 26 (Int32.toNatClampNeg v2))) = z16
          refine Ex.lti (fun x17 x17e x17i => ?_)
          refine Ex.ck (by omega) (by omega) ?_
          refine Ex.ltn (fun q18 q18e => ?_)
          have q18b : 57 ≤ q18 ∧ q18 < 69 := by have := Nat.mod_lt (Int32.toNatClampNeg x9) (show 12 > 0 by decide); omega
          refine Ex.ck (by omega) (by omega) ?_
          generalize z19q : ((g11 43 (Int32.toNatClampNeg v2)) - x17) = z19
          generalize z20q : (if 0 < z19 then z19 else 0) = z20
          have b21 := ic_max (x := 0) (y := z19) (m := 0) (n := (Int32.toInt z19)) (by decide) rfl
          rw [z20q] at b21
          generalize z22q : ((g11 q18 8) * z20) = z22
          generalize z23q : (v1 + z22) = z23
          refine Ex.lti (fun x24 x24e x24i => ?_)
          generalize z25q : (v4 + 1) = z25
          have e26 : (Int32.toInt z25) = (Int32.toInt v4) + 1 := by rw [← z25q]; exact ic_addc rfl (by decide) (by omega) (by omega)
          exact ih28 (x24, z25, g11, L12) ⟨(show (0 ≤ (Int32.toInt v2) ∧ (Int32.toInt v2) ≤ 11) from by omega), (show 57 ≤ q3_ from by omega), (show q3_ < 81 from by omega), (show (0 ≤ (Int32.toInt z25) ∧ (Int32.toInt z25) ≤ 6) from by omega), hI, k0_0⟩ (by show 7 - (Int32.toInt z25) < _; omega) (by omega)
      exact lp28 q3 v1 0 g L (by omega) (by omega) (by omega) (by decide) hI k0_0
  exact lp4 0 0 g0 L0 (by decide) hI k0_0
