set_option maxHeartbeats 4000000 in
set_option maxRecDepth 100000 in
theorem sX10_keepEnds_9 (fu : Nat) (hfu : 1180591620717411303424 ≤ fu) (g0 : Nat → Nat → Int32) (L0 : Nat → Nat → Int64) (hI : zI XT g0) : Ex (fX10_keepEnds_9 fu g0 L0) (fun (r : Unit) (g1 : Nat → Nat → Int32) (L1 : Nat → Nat → Int64) => zI XT g1 ∧ g1 0 13 = g0 0 13) := by
  have k0_0 : g0 0 13 = g0 0 13 := rfl
  unfold fX10_keepEnds_9
  refine Ex.cb (sX1_runFrom_8 fu hfu 0 g0 L0 hI (by decide)) (fun x1 g2 L3 hq5 => ?_)
  obtain ⟨hI, kk0⟩ := hq5
  have hI : zI XT g2 := hI
  have k0_0 : g2 0 13 = g0 0 13 := kk0.trans k0_0
  refine Ex.stA (hI.cpy (fun _ _ => rfl)) (fun g6 g6e hI => ?_)
  have k0_0 : g6 0 13 = g0 0 13 := by rw [g6e]; exact k0_0
  exact Ex.ret ⟨hI, k0_0⟩
set_option maxHeartbeats 4000000 in
set_option maxRecDepth 100000 in
theorem sX10_runMore_9 (fu : Nat) (hfu : 1180591620717411303424 ≤ fu) (p1 : Int32) (p2 : Int32) (g0 : Nat → Nat → Int32) (L0 : Nat → Nat → Int64) (hI : zI XT g0) (hp1 : (0 ≤ (Int32.toInt p1) ∧ (Int32.toInt p1) ≤ 11)) : Ex (fX10_runMore_9 fu p1 p2 g0 L0) (fun (r : Unit) (g1 : Nat → Nat → Int32) (L1 : Nat → Nat → Int64) => zI XT g1 ∧ g1 0 13 = g0 0 13) := by
  have k0_0 : g0 0 13 = g0 0 13 := rfl
  unfold fX10_runMore_9
  refine Ex.ck (by omega) (by omega) ?_
  refine Ex.lti (fun x1 x1e x1i => ?_)
  generalize z2q : (x1 + p2) = z2
  refine Ex.ck (by omega) (by omega) ?_
  refine Ex.sti (hI.updN rfl) (fun g3 g3e hI => ?_)
  have k0_0 : g3 0 13 = g0 0 13 := by rw [g3e]; exact k0_0
  refine Ex.sti (hI.updN rfl) (fun g4 g4e hI => ?_)
  have k0_0 : g4 0 13 = g0 0 13 := by rw [g4e]; exact k0_0
  refine Ex.cb (sX1_runFrom_8 fu hfu p1 g4 L0 hI (by omega)) (fun x5 g6 L7 hq9 => ?_)
  obtain ⟨hI, kk0⟩ := hq9
  have hI : zI XT g6 := hI
  have k0_0 : g6 0 13 = g0 0 13 := kk0.trans k0_0
  refine Ex.sti (hI.updN rfl) (fun g10 g10e hI => ?_)
  have k0_0 : g10 0 13 = g0 0 13 := by rw [g10e]; exact k0_0
  refine Ex.ck (by omega) (by omega) ?_
  refine Ex.sti (hI.updN rfl) (fun g11 g11e hI => ?_)
  have k0_0 : g11 0 13 = g0 0 13 := by rw [g11e]; exact k0_0
  exact Ex.ret ⟨hI, k0_0⟩
set_option maxHeartbeats 4000000 in
set_option maxRecDepth 100000 in
theorem sX10_lessonCount_9 (fu : Nat) (hfu : 1180591620717411303424 ≤ fu) (g0 : Nat → Nat → Int32) (L0 : Nat → Nat → Int64) (hI : zI XT g0) : Ex (fX10_lessonCount_9 fu g0 L0) (fun (r : Int32) (g1 : Nat → Nat → Int32) (L1 : Nat → Nat → Int64) => zI XT g1 ∧ g1 0 13 = g0 0 13 ∧ (0 ≤ (Int32.toInt r) ∧ (Int32.toInt r) ≤ 12)) := by
  have k0_0 : g0 0 13 = g0 0 13 := rfl
  unfold fX10_lessonCount_9
  have b1 : 0 ≤ (Int32.toInt (g0 1 2)) ∧ (Int32.toInt (g0 1 2)) ≤ 12 := hI 1 2 0 12 rfl
  exact Ex.ret ⟨hI, k0_0, (by omega)⟩
set_option maxHeartbeats 4000000 in
set_option maxRecDepth 100000 in
theorem sX10_laterBits_9 (fu : Nat) (hfu : 1180591620717411303424 ≤ fu) (g0 : Nat → Nat → Int32) (L0 : Nat → Nat → Int64) (hI : zI XT g0) : Ex (fX10_laterBits_9 fu g0 L0) (fun (r : Int32) (g1 : Nat → Nat → Int32) (L1 : Nat → Nat → Int64) => zI XT g1 ∧ g1 0 13 = g0 0 13) := by
  have k0_0 : g0 0 13 = g0 0 13 := rfl
  unfold fX10_laterBits_9
  have lp4 : ∀ (v1 : Int32) (v2 : Int32) (g : Nat → Nat → Int32) (L : Nat → Nat → Int64), (0 ≤ (Int32.toInt v2) ∧ (Int32.toInt v2) ≤ 12) → zI XT g → g 0 13 = g0 0 13 → Ex (fX10_laterBits_9_l4 fu v1 v2 g L) (fun (r : Int32) (g1 : Nat → Nat → Int32) (L1 : Nat → Nat → Int64) => zI XT g1 ∧ g1 0 13 = g0 0 13) := by
    intro v1 v2 g L hb_v2 hI k0_0
    unfold fX10_laterBits_9_l4
    refine Ex.loop (fun v => ((0 ≤ (Int32.toInt (v.2.1)) ∧ (Int32.toInt (v.2.1)) ≤ 12)) ∧ (zI XT (v.2.2.1)) ∧ ((v.2.2.1) 0 13 = g0 0 13)) (fun v => 13 - (Int32.toInt (v.2.1))) (by omega) (by show 13 - (Int32.toInt v2) < (fu : Int); omega) ⟨hb_v2, hI, k0_0⟩ (fun k4 v hv ih4 => ?_)
    obtain ⟨v1, v2, g, L⟩ := v
    obtain ⟨hb_v2, hI, k0_0⟩ := hv
    have hb_v2 : (0 ≤ (Int32.toInt v2) ∧ (Int32.toInt v2) ≤ 12) := hb_v2
    have hI : zI XT g := hI
    have k0_0 : g 0 13 = g0 0 13 := k0_0
    have ih4 : ∀ v' : Int32 × Int32 × (Nat → Nat → Int32) × (Nat → Nat → Int64), (((0 ≤ (Int32.toInt (v'.2.1)) ∧ (Int32.toInt (v'.2.1)) ≤ 12)) ∧ (zI XT (v'.2.2.1)) ∧ ((v'.2.2.1) 0 13 = g0 0 13)) → 13 - (Int32.toInt (v'.2.1)) < 13 - (Int32.toInt v2) → 0 < 13 - (Int32.toInt v2) → Ex (k4 v') (fun (r : Int32) (g1 : Nat → Nat → Int32) (L1 : Nat → Nat → Int64) => zI XT g1 ∧ g1 0 13 = g0 0 13) := ih4
    show Ex (fX10_laterBits_9_s4 fu k4 v1 v2 g L) (fun (r : Int32) (g1 : Nat → Nat → Int32) (L1 : Nat → Nat → Int64) => zI XT g1 ∧ g1 0 13 = g0 0 13)
    unfold fX10_laterBits_9_s4
    refine Ex.cb (sX10_lessonCount_9 fu hfu g L hI) (fun x1 g2 L3 hq5 => ?_)
    obtain ⟨hI, kk0, rb_⟩ := hq5
    have b6 : 0 ≤ (Int32.toInt x1) ∧ (Int32.toInt x1) ≤ 12 := rb_
    have hI : zI XT g2 := hI
    have k0_0 : g2 0 13 = g0 0 13 := kk0.trans k0_0
    refine Ex.ite (fun c7 => ?_) (fun c7 => ?_)
    ·
      have c7 := icc_le (m := (Int32.toInt x1)) (n := (Int32.toInt v2)) rfl rfl c7
      exact Ex.ret ⟨hI, k0_0⟩
    ·
      have c7 := icc_nle (m := (Int32.toInt x1)) (n := (Int32.toInt v2)) rfl rfl c7
      refine Ex.ck (by omega) (by omega) ?_
      refine Ex.ck (by omega) (by omega) ?_
      have J36 : ∀ (v1 : Int32) (g : Nat → Nat → Int32) (L : Nat → Nat → Int64), (0 ≤ (Int32.toInt v2) ∧ (Int32.toInt v2) ≤ 11) → zI XT g → g 0 13 = g0 0 13 → Ex (fX10_laterBits_9_p36 fu k4 v1 v2 g L) (fun (r : Int32) (g1 : Nat → Nat → Int32) (L1 : Nat → Nat → Int64) => zI XT g1 ∧ g1 0 13 = g0 0 13) := by
        intro v1 g L hb_v2 hI k0_0
        unfold fX10_laterBits_9_p36
        generalize z8q : (v2 + 1) = z8
        have e9 : (Int32.toInt z8) = (Int32.toInt v2) + 1 := by rw [← z8q]; exact ic_addc rfl (by decide) (by omega) (by omega)
        exact ih4 (v1, z8, g, L) ⟨(show (0 ≤ (Int32.toInt z8) ∧ (Int32.toInt z8) ≤ 12) from by omega), hI, k0_0⟩ (by show 13 - (Int32.toInt z8) < _; omega) (by omega)
      refine Ex.ite (fun c10 => ?_) (fun c10 => ?_)
      ·
        have c10 := icc_le (m := (Int32.toInt (g2 44 (Int32.toNatClampNeg v2)))) (n := (Int32.toInt (g2 49 (Int32.toNatClampNeg v2)))) rfl rfl c10
        exact J36 v1 g2 L3 (by omega) hI k0_0
      ·
        have c10 := icc_nle (m := (Int32.toInt (g2 44 (Int32.toNatClampNeg v2)))) (n := (Int32.toInt (g2 49 (Int32.toNatClampNeg v2)))) rfl rfl c10
        generalize z11q : ((1 : Int32) <<< ((v2 : Int32) &&& 31) : Int32) = z11
        generalize z12q : (v1 ||| z11) = z12
        refine Ex.lti (fun x13 x13e x13i => ?_)
        exact J36 x13 g2 L3 (by omega) hI k0_0
  exact lp4 0 0 g0 L0 (by decide) hI k0_0
set_option maxHeartbeats 4000000 in
set_option maxRecDepth 100000 in
theorem sX10_laterMinutes_9 (fu : Nat) (hfu : 1180591620717411303424 ≤ fu) (g0 : Nat → Nat → Int32) (L0 : Nat → Nat → Int64) (hI : zI XT g0) : Ex (fX10_laterMinutes_9 fu g0 L0) (fun (r : Int32) (g1 : Nat → Nat → Int32) (L1 : Nat → Nat → Int64) => zI XT g1 ∧ g1 0 13 = g0 0 13) := by
  have k0_0 : g0 0 13 = g0 0 13 := rfl
  unfold fX10_laterMinutes_9
  have lp4 : ∀ (v1 : Int32) (v2 : Int32) (g : Nat → Nat → Int32) (L : Nat → Nat → Int64), (0 ≤ (Int32.toInt v2) ∧ (Int32.toInt v2) ≤ 12) → zI XT g → g 0 13 = g0 0 13 → Ex (fX10_laterMinutes_9_l4 fu v1 v2 g L) (fun (r : Int32) (g1 : Nat → Nat → Int32) (L1 : Nat → Nat → Int64) => zI XT g1 ∧ g1 0 13 = g0 0 13) := by
    intro v1 v2 g L hb_v2 hI k0_0
    unfold fX10_laterMinutes_9_l4
    refine Ex.loop (fun v => ((0 ≤ (Int32.toInt (v.2.1)) ∧ (Int32.toInt (v.2.1)) ≤ 12)) ∧ (zI XT (v.2.2.1)) ∧ ((v.2.2.1) 0 13 = g0 0 13)) (fun v => 13 - (Int32.toInt (v.2.1))) (by omega) (by show 13 - (Int32.toInt v2) < (fu : Int); omega) ⟨hb_v2, hI, k0_0⟩ (fun k4 v hv ih4 => ?_)
    obtain ⟨v1, v2, g, L⟩ := v
    obtain ⟨hb_v2, hI, k0_0⟩ := hv
    have hb_v2 : (0 ≤ (Int32.toInt v2) ∧ (Int32.toInt v2) ≤ 12) := hb_v2
    have hI : zI XT g := hI
    have k0_0 : g 0 13 = g0 0 13 := k0_0
    have ih4 : ∀ v' : Int32 × Int32 × (Nat → Nat → Int32) × (Nat → Nat → Int64), (((0 ≤ (Int32.toInt (v'.2.1)) ∧ (Int32.toInt (v'.2.1)) ≤ 12)) ∧ (zI XT (v'.2.2.1)) ∧ ((v'.2.2.1) 0 13 = g0 0 13)) → 13 - (Int32.toInt (v'.2.1)) < 13 - (Int32.toInt v2) → 0 < 13 - (Int32.toInt v2) → Ex (k4 v') (fun (r : Int32) (g1 : Nat → Nat → Int32) (L1 : Nat → Nat → Int64) => zI XT g1 ∧ g1 0 13 = g0 0 13) := ih4
    show Ex (fX10_laterMinutes_9_s4 fu k4 v1 v2 g L) (fun (r : Int32) (g1 : Nat → Nat → Int32) (L1 : Nat → Nat → Int64) => zI XT g1 ∧ g1 0 13 = g0 0 13)
    unfold fX10_laterMinutes_9_s4
    refine Ex.cb (sX10_lessonCount_9 fu hfu g L hI) (fun x1 g2 L3 hq5 => ?_)
    obtain ⟨hI, kk0, rb_⟩ := hq5
    have b6 : 0 ≤ (Int32.toInt x1) ∧ (Int32.toInt x1) ≤ 12 := rb_
    have hI : zI XT g2 := hI
    have k0_0 : g2 0 13 = g0 0 13 := kk0.trans k0_0
    refine Ex.ite (fun c7 => ?_) (fun c7 => ?_)
    ·
      have c7 := icc_le (m := (Int32.toInt x1)) (n := (Int32.toInt v2)) rfl rfl c7
      exact Ex.ret ⟨hI, k0_0⟩
    ·
      have c7 := icc_nle (m := (Int32.toInt x1)) (n := (Int32.toInt v2)) rfl rfl c7
      refine Ex.ck (by omega) (by omega) ?_
      refine Ex.ck (by omega) (by omega) ?_
      generalize z8q : ((g2 44 (Int32.toNatClampNeg v2)) - (g2 49 (Int32.toNatClampNeg v2))) = z8
      generalize z9q : (v1 + z8) = z9
      refine Ex.lti (fun x10 x10e x10i => ?_)
      generalize z11q : (v2 + 1) = z11
      have e12 : (Int32.toInt z11) = (Int32.toInt v2) + 1 := by rw [← z11q]; exact ic_addc rfl (by decide) (by omega) (by omega)
      exact ih4 (x10, z11, g2, L3) ⟨(show (0 ≤ (Int32.toInt z11) ∧ (Int32.toInt z11) ≤ 12) from by omega), hI, k0_0⟩ (by show 13 - (Int32.toInt z11) < _; omega) (by omega)
  exact lp4 0 0 g0 L0 (by decide) hI k0_0
set_option maxHeartbeats 4000000 in
set_option maxRecDepth 100000 in
theorem sX10_leastThatReaches_9 (fu : Nat) (hfu : 1180591620717411303424 ≤ fu) (p1 : Int32) (p2 : Int32) (g0 : Nat → Nat → Int32) (L0 : Nat → Nat → Int64) (hI : zI XT g0) (hp1 : (0 ≤ (Int32.toInt p1) ∧ (Int32.toInt p1) ≤ 11)) (hp2 : (0 ≤ (Int32.toInt p2) ∧ (Int32.toInt p2) ≤ 11)) : Ex (fX10_leastThatReaches_9 fu p1 p2 g0 L0) (fun (r : Int32) (g1 : Nat → Nat → Int32) (L1 : Nat → Nat → Int64) => zI XT g1 ∧ g1 0 13 = g0 0 13 ∧ ((-1) ≤ (Int32.toInt r) ∧ (Int32.toInt r) ≤ 120)) := by
  have k0_0 : g0 0 13 = g0 0 13 := rfl
  unfold fX10_leastThatReaches_9
  refine Ex.cb (sX10_keepEnds_9 fu hfu g0 L0 hI) (fun x1 g2 L3 hq5 => ?_)
  obtain ⟨hI, kk0⟩ := hq5
  have hI : zI XT g2 := hI
  have k0_0 : g2 0 13 = g0 0 13 := kk0.trans k0_0
  have lp6 : ∀ (v1 : Int32) (v2 : Int32) (v3 : Int32) (g : Nat → Nat → Int32) (L : Nat → Nat → Int64), (0 ≤ (Int32.toInt v1) ∧ (Int32.toInt v1) ≤ 11) → (0 ≤ (Int32.toInt v2) ∧ (Int32.toInt v2) ≤ 11) → (1 ≤ (Int32.toInt v3) ∧ (Int32.toInt v3) ≤ 121) → zI XT g → g 0 13 = g0 0 13 → Ex (fX10_leastThatReaches_9_l6 fu v1 v2 v3 g L) (fun (r : Int32) (g1 : Nat → Nat → Int32) (L1 : Nat → Nat → Int64) => zI XT g1 ∧ g1 0 13 = g0 0 13 ∧ ((-1) ≤ (Int32.toInt r) ∧ (Int32.toInt r) ≤ 120)) := by
    intro v1 v2 v3 g L hb_v1 hb_v2 hb_v3 hI k0_0
    unfold fX10_leastThatReaches_9_l6
    refine Ex.loop (fun v => ((0 ≤ (Int32.toInt v1) ∧ (Int32.toInt v1) ≤ 11)) ∧ ((0 ≤ (Int32.toInt v2) ∧ (Int32.toInt v2) ≤ 11)) ∧ ((1 ≤ (Int32.toInt (v.1)) ∧ (Int32.toInt (v.1)) ≤ 121)) ∧ (zI XT (v.2.1)) ∧ ((v.2.1) 0 13 = g0 0 13)) (fun v => 122 - (Int32.toInt (v.1))) (by omega) (by show 122 - (Int32.toInt v3) < (fu : Int); omega) ⟨hb_v1, hb_v2, hb_v3, hI, k0_0⟩ (fun k6 v hv ih6 => ?_)
    obtain ⟨v3, g, L⟩ := v
    obtain ⟨hb_v1, hb_v2, hb_v3, hI, k0_0⟩ := hv
    have hb_v1 : (0 ≤ (Int32.toInt v1) ∧ (Int32.toInt v1) ≤ 11) := hb_v1
    have hb_v2 : (0 ≤ (Int32.toInt v2) ∧ (Int32.toInt v2) ≤ 11) := hb_v2
    have hb_v3 : (1 ≤ (Int32.toInt v3) ∧ (Int32.toInt v3) ≤ 121) := hb_v3
    have hI : zI XT g := hI
    have k0_0 : g 0 13 = g0 0 13 := k0_0
    have ih6 : ∀ v' : Int32 × (Nat → Nat → Int32) × (Nat → Nat → Int64), (((0 ≤ (Int32.toInt v1) ∧ (Int32.toInt v1) ≤ 11)) ∧ ((0 ≤ (Int32.toInt v2) ∧ (Int32.toInt v2) ≤ 11)) ∧ ((1 ≤ (Int32.toInt (v'.1)) ∧ (Int32.toInt (v'.1)) ≤ 121)) ∧ (zI XT (v'.2.1)) ∧ ((v'.2.1) 0 13 = g0 0 13)) → 122 - (Int32.toInt (v'.1)) < 122 - (Int32.toInt v3) → 0 < 122 - (Int32.toInt v3) → Ex (k6 v') (fun (r : Int32) (g1 : Nat → Nat → Int32) (L1 : Nat → Nat → Int64) => zI XT g1 ∧ g1 0 13 = g0 0 13 ∧ ((-1) ≤ (Int32.toInt r) ∧ (Int32.toInt r) ≤ 120)) := ih6
    show Ex (fX10_leastThatReaches_9_s6 fu v1 v2 k6 v3 g L) (fun (r : Int32) (g1 : Nat → Nat → Int32) (L1 : Nat → Nat → Int64) => zI XT g1 ∧ g1 0 13 = g0 0 13 ∧ ((-1) ≤ (Int32.toInt r) ∧ (Int32.toInt r) ≤ 120))
    unfold fX10_leastThatReaches_9_s6
    refine Ex.ite (fun c6 => ?_) (fun c6 => ?_)
    ·
      have c6 := icc_lt (m := 120) (n := (Int32.toInt v3)) (by decide) rfl c6
      exact Ex.ret ⟨hI, k0_0, (by decide)⟩
    ·
      have c6 := icc_nlt (m := 120) (n := (Int32.toInt v3)) (by decide) rfl c6
      refine Ex.cb (sX10_runMore_9 fu hfu v1 v3 g L hI (by omega)) (fun x7 g8 L9 hq11 => ?_)
      obtain ⟨hI, kk0⟩ := hq11
      have hI : zI XT g8 := hI
      have k0_0 : g8 0 13 = g0 0 13 := kk0.trans k0_0
      refine Ex.ck (by omega) (by omega) ?_
      refine Ex.ck (by omega) (by omega) ?_
      refine Ex.ite (fun c12 => ?_) (fun c12 => ?_)
      ·
        have c12 := icc_le (m := (Int32.toInt (g8 44 (Int32.toNatClampNeg v2)))) (n := (Int32.toInt (g8 49 (Int32.toNatClampNeg v2)))) rfl rfl c12
        generalize z13q : (v3 + 1) = z13
        have e14 : (Int32.toInt z13) = (Int32.toInt v3) + 1 := by rw [← z13q]; exact ic_addc rfl (by decide) (by omega) (by omega)
        exact ih6 (z13, g8, L9) ⟨(show (0 ≤ (Int32.toInt v1) ∧ (Int32.toInt v1) ≤ 11) from by omega), (show (0 ≤ (Int32.toInt v2) ∧ (Int32.toInt v2) ≤ 11) from by omega), (show (1 ≤ (Int32.toInt z13) ∧ (Int32.toInt z13) ≤ 121) from by omega), hI, k0_0⟩ (by show 122 - (Int32.toInt z13) < _; omega) (by omega)
      ·
        have c12 := icc_nle (m := (Int32.toInt (g8 44 (Int32.toNatClampNeg v2)))) (n := (Int32.toInt (g8 49 (Int32.toNatClampNeg v2)))) rfl rfl c12
        exact Ex.ret ⟨hI, k0_0, (by omega)⟩
  exact lp6 p1 p2 1 g2 L3 (by omega) (by omega) (by decide) hI k0_0
set_option maxHeartbeats 4000000 in
set_option maxRecDepth 100000 in
theorem sX10_mostThatDies_9 (fu : Nat) (hfu : 1180591620717411303424 ≤ fu) (p1 : Int32) (g0 : Nat → Nat → Int32) (L0 : Nat → Nat → Int64) (hI : zI XT g0) (hp1 : (0 ≤ (Int32.toInt p1) ∧ (Int32.toInt p1) ≤ 11)) : Ex (fX10_mostThatDies_9 fu p1 g0 L0) (fun (r : Int32) (g1 : Nat → Nat → Int32) (L1 : Nat → Nat → Int64) => zI XT g1 ∧ g1 0 13 = g0 0 13 ∧ (0 ≤ (Int32.toInt r) ∧ (Int32.toInt r) ≤ 120)) := by
  have k0_0 : g0 0 13 = g0 0 13 := rfl
  unfold fX10_mostThatDies_9
  refine Ex.cb (sX10_keepEnds_9 fu hfu g0 L0 hI) (fun x1 g2 L3 hq5 => ?_)
  obtain ⟨hI, kk0⟩ := hq5
  have hI : zI XT g2 := hI
  have k0_0 : g2 0 13 = g0 0 13 := kk0.trans k0_0
  have lp7 : ∀ (v1 : Int32) (v2 : Int32) (g : Nat → Nat → Int32) (L : Nat → Nat → Int64), (0 ≤ (Int32.toInt v1) ∧ (Int32.toInt v1) ≤ 11) → (0 ≤ (Int32.toInt v2) ∧ (Int32.toInt v2) ≤ 120) → zI XT g → g 0 13 = g0 0 13 → Ex (fX10_mostThatDies_9_l7 fu v1 v2 g L) (fun (r : Int32) (g1 : Nat → Nat → Int32) (L1 : Nat → Nat → Int64) => zI XT g1 ∧ g1 0 13 = g0 0 13 ∧ (0 ≤ (Int32.toInt r) ∧ (Int32.toInt r) ≤ 120)) := by
    intro v1 v2 g L hb_v1 hb_v2 hI k0_0
    unfold fX10_mostThatDies_9_l7
    refine Ex.loop (fun v => ((0 ≤ (Int32.toInt v1) ∧ (Int32.toInt v1) ≤ 11)) ∧ ((0 ≤ (Int32.toInt (v.1)) ∧ (Int32.toInt (v.1)) ≤ 120)) ∧ (zI XT (v.2.1)) ∧ ((v.2.1) 0 13 = g0 0 13)) (fun v => (Int32.toInt (v.1)) - (-1)) (by omega) (by show (Int32.toInt v2) - (-1) < (fu : Int); omega) ⟨hb_v1, hb_v2, hI, k0_0⟩ (fun k7 v hv ih7 => ?_)
    obtain ⟨v2, g, L⟩ := v
    obtain ⟨hb_v1, hb_v2, hI, k0_0⟩ := hv
    have hb_v1 : (0 ≤ (Int32.toInt v1) ∧ (Int32.toInt v1) ≤ 11) := hb_v1
    have hb_v2 : (0 ≤ (Int32.toInt v2) ∧ (Int32.toInt v2) ≤ 120) := hb_v2
    have hI : zI XT g := hI
    have k0_0 : g 0 13 = g0 0 13 := k0_0
    have ih7 : ∀ v' : Int32 × (Nat → Nat → Int32) × (Nat → Nat → Int64), (((0 ≤ (Int32.toInt v1) ∧ (Int32.toInt v1) ≤ 11)) ∧ ((0 ≤ (Int32.toInt (v'.1)) ∧ (Int32.toInt (v'.1)) ≤ 120)) ∧ (zI XT (v'.2.1)) ∧ ((v'.2.1) 0 13 = g0 0 13)) → (Int32.toInt (v'.1)) - (-1) < (Int32.toInt v2) - (-1) → 0 < (Int32.toInt v2) - (-1) → Ex (k7 v') (fun (r : Int32) (g1 : Nat → Nat → Int32) (L1 : Nat → Nat → Int64) => zI XT g1 ∧ g1 0 13 = g0 0 13 ∧ (0 ≤ (Int32.toInt r) ∧ (Int32.toInt r) ≤ 120)) := ih7
    show Ex (fX10_mostThatDies_9_s7 fu v1 k7 v2 g L) (fun (r : Int32) (g1 : Nat → Nat → Int32) (L1 : Nat → Nat → Int64) => zI XT g1 ∧ g1 0 13 = g0 0 13 ∧ (0 ≤ (Int32.toInt r) ∧ (Int32.toInt r) ≤ 120))
    unfold fX10_mostThatDies_9_s7
    refine Ex.ite (fun c6 => ?_) (fun c6 => ?_)
    ·
      have c6 := icc_le (m := (Int32.toInt v2)) (n := 0) rfl (by decide) c6
      exact Ex.ret ⟨hI, k0_0, (by decide)⟩
    ·
      have c6 := icc_nle (m := (Int32.toInt v2)) (n := 0) rfl (by decide) c6
      refine Ex.cb (sX10_runMore_9 fu hfu v1 v2 g L hI (by omega)) (fun x7 g8 L9 hq11 => ?_)
      obtain ⟨hI, kk0⟩ := hq11
      have hI : zI XT g8 := hI
      have k0_0 : g8 0 13 = g0 0 13 := kk0.trans k0_0
      refine Ex.cb (sX10_laterBits_9 fu hfu g8 L9 hI) (fun x12 g13 L14 hq16 => ?_)
      obtain ⟨hI, kk0⟩ := hq16
      have hI : zI XT g13 := hI
      have k0_0 : g13 0 13 = g0 0 13 := kk0.trans k0_0
      generalize z17q : ((1 : Int32) <<< ((v1 : Int32) &&& 31) : Int32) = z17
      generalize z18q : (z17 ^^^ (-1)) = z18
      generalize z19q : (x12 &&& z18) = z19
      refine Ex.ite (fun c20 => ?_) (fun c20 => ?_)
      ·
        have c20 := icc_eq (m := (Int32.toInt z19)) (n := 0) rfl (by decide) c20
        exact Ex.ret ⟨hI, k0_0, (by omega)⟩
      ·
        have c20 := icc_neq (m := (Int32.toInt z19)) (n := 0) rfl (by decide) c20
        generalize z21q : (v2 + (-1)) = z21
        have e22 : (Int32.toInt z21) = (Int32.toInt v2) + (-1) := by rw [← z21q]; exact ic_addc rfl (by decide) (by omega) (by omega)
        exact ih7 (z21, g13, L14) ⟨(show (0 ≤ (Int32.toInt v1) ∧ (Int32.toInt v1) ≤ 11) from by omega), (show (0 ≤ (Int32.toInt z21) ∧ (Int32.toInt z21) ≤ 120) from by omega), hI, k0_0⟩ (by show (Int32.toInt z21) - (-1) < _; omega) (by omega)
  exact lp7 p1 120 g2 L3 (by omega) (by decide) hI k0_0
set_option maxHeartbeats 4000000 in
set_option maxRecDepth 100000 in
theorem sX4_clear_13 (fu : Nat) (hfu : 1180591620717411303424 ≤ fu) (g0 : Nat → Nat → Int32) (L0 : Nat → Nat → Int64) (hI : zI XT g0) : Ex (fX4_clear_13 fu g0 L0) (fun (r : Unit) (g1 : Nat → Nat → Int32) (L1 : Nat → Nat → Int64) => zI XT g1 ∧ g1 0 13 = g0 0 13) := by
  have k0_0 : g0 0 13 = g0 0 13 := rfl
  unfold fX4_clear_13
  refine Ex.sti (hI.upd rfl (by decide) (by decide)) (fun g1 g1e hI => ?_)
  have k0_0 : g1 0 13 = g0 0 13 := by rw [g1e]; exact k0_0
  exact Ex.ret ⟨hI, k0_0⟩
set_option maxHeartbeats 4000000 in
set_option maxRecDepth 100000 in
theorem sX4_told_13 (fu : Nat) (hfu : 1180591620717411303424 ≤ fu) (p1 : Int32) (g0 : Nat → Nat → Int32) (L0 : Nat → Nat → Int64) (hI : zI XT g0) : Ex (fX4_told_13 fu p1 g0 L0) (fun (r : Int32) (g1 : Nat → Nat → Int32) (L1 : Nat → Nat → Int64) => zI XT g1 ∧ g1 0 13 = g0 0 13) := by
  have k0_0 : g0 0 13 = g0 0 13 := rfl
  unfold fX4_told_13
  have b1 : 0 ≤ (Int32.toInt (g0 13 0)) ∧ (Int32.toInt (g0 13 0)) ≤ 1 := hI 13 0 0 1 rfl
  refine Ex.ite (fun c2 => ?_) (fun c2 => ?_)
  ·
    have c2 := icc_eq (m := (Int32.toInt (g0 13 0))) (n := 0) rfl (by decide) c2
    exact Ex.ret ⟨hI, k0_0⟩
  ·
    have c2 := icc_neq (m := (Int32.toInt (g0 13 0))) (n := 0) rfl (by decide) c2
    have J24 : ∀ (t0 : Int32) (g : Nat → Nat → Int32) (L : Nat → Nat → Int64), zI XT g → g 0 13 = g0 0 13 → Ex (fX4_told_13_p24 fu t0 g L) (fun (r : Int32) (g1 : Nat → Nat → Int32) (L1 : Nat → Nat → Int64) => zI XT g1 ∧ g1 0 13 = g0 0 13) := by
      intro t0 g L hI k0_0
      unfold fX4_told_13_p24
      exact Ex.ret ⟨hI, k0_0⟩
    refine Ex.ite (fun c3 => ?_) (fun c3 => ?_)
    ·
      have c3 := icc_eq (m := (Int32.toInt p1)) (n := 0) rfl (by decide) c3
      exact J24 (g0 13 1) g0 L0 hI k0_0
    ·
      have c3 := icc_neq (m := (Int32.toInt p1)) (n := 0) rfl (by decide) c3
      exact J24 (g0 13 2) g0 L0 hI k0_0
set_option maxHeartbeats 4000000 in
set_option maxRecDepth 100000 in
theorem sX10_exchange_9 (fu : Nat) (hfu : 1180591620717411303424 ≤ fu) (p1 : Int32) (p2 : Int32) (g0 : Nat → Nat → Int32) (L0 : Nat → Nat → Int64) (hI : zI XT g0) (hp1 : (0 ≤ (Int32.toInt p1) ∧ (Int32.toInt p1) ≤ 11)) (hp2 : (0 ≤ (Int32.toInt p2) ∧ (Int32.toInt p2) ≤ 11)) : Ex (fX10_exchange_9 fu p1 p2 g0 L0) (fun (r : Unit) (g1 : Nat → Nat → Int32) (L1 : Nat → Nat → Int64) => zI XT g1 ∧ g1 0 13 = g0 0 13) := by
  have k0_0 : g0 0 13 = g0 0 13 := rfl
  unfold fX10_exchange_9
  refine Ex.ck (by omega) (by omega) ?_
  refine Ex.lti (fun x1 x1e x1i => ?_)
  refine Ex.ck (by omega) (by omega) ?_
  refine Ex.ck (by omega) (by omega) ?_
  refine Ex.sti (hI.updN rfl) (fun g2 g2e hI => ?_)
  have k0_0 : g2 0 13 = g0 0 13 := by rw [g2e]; exact k0_0
  refine Ex.ck (by omega) (by omega) ?_
  refine Ex.sti (hI.updN rfl) (fun g3 g3e hI => ?_)
  have k0_0 : g3 0 13 = g0 0 13 := by rw [g3e]; exact k0_0
  exact Ex.ret ⟨hI, k0_0⟩
set_option maxHeartbeats 4000000 in
set_option maxRecDepth 100000 in
theorem sX4_offer_13 (fu : Nat) (hfu : 1180591620717411303424 ≤ fu) (p1 : Int32) (p2 : Int32) (g0 : Nat → Nat → Int32) (L0 : Nat → Nat → Int64) (hI : zI XT g0) : Ex (fX4_offer_13 fu p1 p2 g0 L0) (fun (r : Unit) (g1 : Nat → Nat → Int32) (L1 : Nat → Nat → Int64) => zI XT g1 ∧ g1 0 13 = g0 0 13) := by
  have k0_0 : g0 0 13 = g0 0 13 := rfl
  unfold fX4_offer_13
  have b1 : 0 ≤ (Int32.toInt (g0 13 0)) ∧ (Int32.toInt (g0 13 0)) ≤ 1 := hI 13 0 0 1 rfl
  have J46 : ∀ (g : Nat → Nat → Int32) (L : Nat → Nat → Int64), zI XT g → g 0 13 = g0 0 13 → Ex (fX4_offer_13_p46 fu g L) (fun (r : Unit) (g1 : Nat → Nat → Int32) (L1 : Nat → Nat → Int64) => zI XT g1 ∧ g1 0 13 = g0 0 13) := by
    intro g L hI k0_0
    unfold fX4_offer_13_p46
    exact Ex.ret ⟨hI, k0_0⟩
  have J31 : ∀ (v1 : Int32) (v2 : Int32) (g : Nat → Nat → Int32) (L : Nat → Nat → Int64), zI XT g → g 0 13 = g0 0 13 → Ex (fX4_offer_13_p31 fu v1 v2 g L) (fun (r : Unit) (g1 : Nat → Nat → Int32) (L1 : Nat → Nat → Int64) => zI XT g1 ∧ g1 0 13 = g0 0 13) := by
    intro v1 v2 g L hI k0_0
    unfold fX4_offer_13_p31
    refine Ex.sti (hI.upd rfl (by decide) (by decide)) (fun g2 g2e hI => ?_)
    have k0_0 : g2 0 13 = g0 0 13 := by rw [g2e]; exact k0_0
    refine Ex.sti (hI.updN rfl) (fun g3 g3e hI => ?_)
    have k0_0 : g3 0 13 = g0 0 13 := by rw [g3e]; exact k0_0
    refine Ex.sti (hI.updN rfl) (fun g4 g4e hI => ?_)
    have k0_0 : g4 0 13 = g0 0 13 := by rw [g4e]; exact k0_0
    exact J46 g4 L hI k0_0
  refine Ex.ite (fun c5 => ?_) (fun c5 => ?_)
  ·
    have c5 := icc_eq (m := (Int32.toInt (g0 13 0))) (n := 0) rfl (by decide) c5
    exact J31 p1 p2 g0 L0 hI k0_0
  ·
    have c5 := icc_neq (m := (Int32.toInt (g0 13 0))) (n := 0) rfl (by decide) c5
    refine Ex.ite (fun c6 => ?_) (fun c6 => ?_)
    ·
      have c6 := icc_lt (m := (Int32.toInt p2)) (n := (Int32.toInt (g0 13 2))) rfl rfl c6
      exact J31 p1 p2 g0 L0 hI k0_0
    ·
      have c6 := icc_nlt (m := (Int32.toInt p2)) (n := (Int32.toInt (g0 13 2))) rfl rfl c6
      refine Ex.ite (fun c7 => ?_) (fun c7 => ?_)
      ·
        have c7 := icc_eq (m := (Int32.toInt p2)) (n := (Int32.toInt (g0 13 2))) rfl rfl c7
        refine Ex.ite (fun c8 => ?_) (fun c8 => ?_)
        ·
          have c8 := icc_le (m := (Int32.toInt (g0 13 1))) (n := (Int32.toInt p1)) rfl rfl c8
          exact J46 g0 L0 hI k0_0
        ·
          have c8 := icc_nle (m := (Int32.toInt (g0 13 1))) (n := (Int32.toInt p1)) rfl rfl c8
          exact J31 p1 p2 g0 L0 hI k0_0
      ·
        have c7 := icc_neq (m := (Int32.toInt p2)) (n := (Int32.toInt (g0 13 2))) rfl rfl c7
        exact J46 g0 L0 hI k0_0
set_option maxHeartbeats 4000000 in
set_option maxRecDepth 100000 in
theorem sX10_swapped_9 (fu : Nat) (hfu : 1180591620717411303424 ≤ fu) (p1 : Int32) (g0 : Nat → Nat → Int32) (L0 : Nat → Nat → Int64) (hI : zI XT g0) : Ex (fX10_swapped_9 fu p1 g0 L0) (fun (r : Int32) (g1 : Nat → Nat → Int32) (L1 : Nat → Nat → Int64) => zI XT g1 ∧ g1 0 13 = g0 0 13) := by
  have k0_0 : g0 0 13 = g0 0 13 := rfl
  unfold fX10_swapped_9
  refine Ex.cb (sX1_lostFrom_8 fu hfu 0 g0 L0 hI (by decide)) (fun x1 g2 L3 hq5 => ?_)
  obtain ⟨hI, kk0⟩ := hq5
  have hI : zI XT g2 := hI
  have k0_0 : g2 0 13 = g0 0 13 := kk0.trans k0_0
  refine Ex.cb (sX4_clear_13 fu hfu g2 L3 hI) (fun x6 g7 L8 hq10 => ?_)
  obtain ⟨hI, kk0⟩ := hq10
  have hI : zI XT g7 := hI
  have k0_0 : g7 0 13 = g0 0 13 := kk0.trans k0_0
  have lp18 : ∀ (v1 : Int32) (v2 : Int32) (v3 : Int32) (g : Nat → Nat → Int32) (L : Nat → Nat → Int64), (0 ≤ (Int32.toInt v3) ∧ (Int32.toInt v3) ≤ 12) → zI XT g → g 0 13 = g0 0 13 → Ex (fX10_swapped_9_l18 fu v1 v2 v3 g L) (fun (r : Int32) (g1 : Nat → Nat → Int32) (L1 : Nat → Nat → Int64) => zI XT g1 ∧ g1 0 13 = g0 0 13) := by
    intro v1 v2 v3 g L hb_v3 hI k0_0
    unfold fX10_swapped_9_l18
    refine Ex.loop (fun v => ((0 ≤ (Int32.toInt (v.1)) ∧ (Int32.toInt (v.1)) ≤ 12)) ∧ (zI XT (v.2.1)) ∧ ((v.2.1) 0 13 = g0 0 13)) (fun v => 13 - (Int32.toInt (v.1))) (by omega) (by show 13 - (Int32.toInt v3) < (fu : Int); omega) ⟨hb_v3, hI, k0_0⟩ (fun k18 v hv ih18 => ?_)
    obtain ⟨v3, g, L⟩ := v
    obtain ⟨hb_v3, hI, k0_0⟩ := hv
    have hb_v3 : (0 ≤ (Int32.toInt v3) ∧ (Int32.toInt v3) ≤ 12) := hb_v3
    have hI : zI XT g := hI
    have k0_0 : g 0 13 = g0 0 13 := k0_0
    have ih18 : ∀ v' : Int32 × (Nat → Nat → Int32) × (Nat → Nat → Int64), (((0 ≤ (Int32.toInt (v'.1)) ∧ (Int32.toInt (v'.1)) ≤ 12)) ∧ (zI XT (v'.2.1)) ∧ ((v'.2.1) 0 13 = g0 0 13)) → 13 - (Int32.toInt (v'.1)) < 13 - (Int32.toInt v3) → 0 < 13 - (Int32.toInt v3) → Ex (k18 v') (fun (r : Int32) (g1 : Nat → Nat → Int32) (L1 : Nat → Nat → Int64) => zI XT g1 ∧ g1 0 13 = g0 0 13) := ih18
    show Ex (fX10_swapped_9_s18 fu v1 v2 k18 v3 g L) (fun (r : Int32) (g1 : Nat → Nat → Int32) (L1 : Nat → Nat → Int64) => zI XT g1 ∧ g1 0 13 = g0 0 13)
    unfold fX10_swapped_9_s18
    refine Ex.cb (sX10_lessonCount_9 fu hfu g L hI) (fun x11 g12 L13 hq15 => ?_)
    obtain ⟨hI, kk0, rb_⟩ := hq15
    have b16 : 0 ≤ (Int32.toInt x11) ∧ (Int32.toInt x11) ≤ 12 := rb_
    have hI : zI XT g12 := hI
    have k0_0 : g12 0 13 = g0 0 13 := kk0.trans k0_0
    refine Ex.ite (fun c17 => ?_) (fun c17 => ?_)
    ·
      have c17 := icc_le (m := (Int32.toInt x11)) (n := (Int32.toInt v3)) rfl rfl c17
      have b18 : 0 ≤ (Int32.toInt (g12 13 0)) ∧ (Int32.toInt (g12 13 0)) ≤ 1 := hI 13 0 0 1 rfl
      have J121 : ∀ (t0 : Int32) (g : Nat → Nat → Int32) (L : Nat → Nat → Int64), zI XT g → g 0 13 = g0 0 13 → Ex (fX10_swapped_9_p121 fu t0 g L) (fun (r : Int32) (g1 : Nat → Nat → Int32) (L1 : Nat → Nat → Int64) => zI XT g1 ∧ g1 0 13 = g0 0 13) := by
        intro t0 g L hI k0_0
        unfold fX10_swapped_9_p121
        exact Ex.ret ⟨hI, k0_0⟩
      have J120 : ∀ (g : Nat → Nat → Int32) (L : Nat → Nat → Int64), zI XT g → g 0 13 = g0 0 13 → Ex (fX10_swapped_9_p120 fu g L) (fun (r : Int32) (g1 : Nat → Nat → Int32) (L1 : Nat → Nat → Int64) => zI XT g1 ∧ g1 0 13 = g0 0 13) := by
        intro g L hI k0_0
        unfold fX10_swapped_9_p120
        exact J121 (-1) g L hI k0_0
      refine Ex.ite (fun c19 => ?_) (fun c19 => ?_)
      ·
        have c19 := icc_eq (m := (Int32.toInt (g12 13 0))) (n := 0) rfl (by decide) c19
        exact J120 g12 L13 hI k0_0
      ·
        have c19 := icc_neq (m := (Int32.toInt (g12 13 0))) (n := 0) rfl (by decide) c19
        refine Ex.ite (fun c20 => ?_) (fun c20 => ?_)
        ·
          have c20 := icc_le (m := (Int32.toInt v2)) (n := (Int32.toInt (g12 13 2))) rfl rfl c20
          exact J120 g12 L13 hI k0_0
        ·
          have c20 := icc_nle (m := (Int32.toInt v2)) (n := (Int32.toInt (g12 13 2))) rfl rfl c20
          refine Ex.cb (sX4_told_13 fu hfu v1 g12 L13 hI) (fun x21 g22 L23 hq25 => ?_)
          obtain ⟨hI, kk0⟩ := hq25
          have hI : zI XT g22 := hI
          have k0_0 : g22 0 13 = g0 0 13 := kk0.trans k0_0
          exact J121 x21 g22 L23 hI k0_0
    ·
      have c17 := icc_nle (m := (Int32.toInt x11)) (n := (Int32.toInt v3)) rfl rfl c17
      generalize z26q : (v3 + 1) = z26
      have e27 : (Int32.toInt z26) = (Int32.toInt v3) + 1 := by rw [← z26q]; exact ic_addc rfl (by decide) (by omega) (by omega)
      refine Ex.lti (fun x28 x28e x28i => ?_)
      have lp31 : ∀ (v4 : Int32) (g : Nat → Nat → Int32) (L : Nat → Nat → Int64), (0 ≤ (Int32.toInt v3) ∧ (Int32.toInt v3) ≤ 11) → (1 ≤ (Int32.toInt v4) ∧ (Int32.toInt v4) ≤ 12) → zI XT g → g 0 13 = g0 0 13 → Ex (fX10_swapped_9_l31 fu k18 v1 v2 v3 v4 g L) (fun (r : Int32) (g1 : Nat → Nat → Int32) (L1 : Nat → Nat → Int64) => zI XT g1 ∧ g1 0 13 = g0 0 13) := by
        intro v4 g L hb_v3 hb_v4 hI k0_0
        unfold fX10_swapped_9_l31
        refine Ex.loop (fun v => ((0 ≤ (Int32.toInt v3) ∧ (Int32.toInt v3) ≤ 11)) ∧ ((1 ≤ (Int32.toInt (v.1)) ∧ (Int32.toInt (v.1)) ≤ 12)) ∧ (zI XT (v.2.1)) ∧ ((v.2.1) 0 13 = g0 0 13)) (fun v => 13 - (Int32.toInt (v.1))) (by omega) (by show 13 - (Int32.toInt v4) < (fu : Int); omega) ⟨hb_v3, hb_v4, hI, k0_0⟩ (fun k31 v hv ih31 => ?_)
        obtain ⟨v4, g, L⟩ := v
        obtain ⟨hb_v3, hb_v4, hI, k0_0⟩ := hv
        have hb_v3 : (0 ≤ (Int32.toInt v3) ∧ (Int32.toInt v3) ≤ 11) := hb_v3
        have hb_v4 : (1 ≤ (Int32.toInt v4) ∧ (Int32.toInt v4) ≤ 12) := hb_v4
        have hI : zI XT g := hI
        have k0_0 : g 0 13 = g0 0 13 := k0_0
        have ih31 : ∀ v' : Int32 × (Nat → Nat → Int32) × (Nat → Nat → Int64), (((0 ≤ (Int32.toInt v3) ∧ (Int32.toInt v3) ≤ 11)) ∧ ((1 ≤ (Int32.toInt (v'.1)) ∧ (Int32.toInt (v'.1)) ≤ 12)) ∧ (zI XT (v'.2.1)) ∧ ((v'.2.1) 0 13 = g0 0 13)) → 13 - (Int32.toInt (v'.1)) < 13 - (Int32.toInt v4) → 0 < 13 - (Int32.toInt v4) → Ex (k31 v') (fun (r : Int32) (g1 : Nat → Nat → Int32) (L1 : Nat → Nat → Int64) => zI XT g1 ∧ g1 0 13 = g0 0 13) := ih31
        show Ex (fX10_swapped_9_s31 fu k18 v1 v2 v3 k31 v4 g L) (fun (r : Int32) (g1 : Nat → Nat → Int32) (L1 : Nat → Nat → Int64) => zI XT g1 ∧ g1 0 13 = g0 0 13)
        unfold fX10_swapped_9_s31
        refine Ex.cb (sX10_lessonCount_9 fu hfu g L hI) (fun x29 g30 L31 hq33 => ?_)
        obtain ⟨hI, kk0, rb_⟩ := hq33
        have b34 : 0 ≤ (Int32.toInt x29) ∧ (Int32.toInt x29) ≤ 12 := rb_
        have hI : zI XT g30 := hI
        have k0_0 : g30 0 13 = g0 0 13 := kk0.trans k0_0
        refine Ex.ite (fun c35 => ?_) (fun c35 => ?_)
        ·
          have c35 := icc_le (m := (Int32.toInt x29)) (n := (Int32.toInt v4)) rfl rfl c35
          generalize z36q : (v3 + 1) = z36
          have e37 : (Int32.toInt z36) = (Int32.toInt v3) + 1 := by rw [← z36q]; exact ic_addc rfl (by decide) (by omega) (by omega)
          exact ih18 (z36, g30, L31) ⟨(show (0 ≤ (Int32.toInt z36) ∧ (Int32.toInt z36) ≤ 12) from by omega), hI, k0_0⟩ (by show 13 - (Int32.toInt z36) < _; omega) (by omega)
        ·
          have c35 := icc_nle (m := (Int32.toInt x29)) (n := (Int32.toInt v4)) rfl rfl c35
          refine Ex.cb (sX10_exchange_9 fu hfu v3 v4 g30 L31 hI (by omega) (by omega)) (fun x38 g39 L40 hq42 => ?_)
          obtain ⟨hI, kk0⟩ := hq42
          have hI : zI XT g39 := hI
          have k0_0 : g39 0 13 = g0 0 13 := kk0.trans k0_0
          generalize z43q : (100 * v3) = z43
          have e44 : (Int32.toInt z43) = 100 * (Int32.toInt v3) := by rw [← z43q]; exact ic_mulc (by decide) rfl (by omega) (by omega)
          generalize z45q : (z43 + v4) = z45
          have e46 : (Int32.toInt z45) = (Int32.toInt z43) + (Int32.toInt v4) := by rw [← z45q]; exact ic_addc rfl rfl (by omega) (by omega)
          refine Ex.cb (sX1_lostFrom_8 fu hfu 0 g39 L40 hI (by decide)) (fun x47 g48 L49 hq51 => ?_)
          obtain ⟨hI, kk0⟩ := hq51
          have hI : zI XT g48 := hI
          have k0_0 : g48 0 13 = g0 0 13 := kk0.trans k0_0
          refine Ex.cb (sX4_offer_13 fu hfu z45 x47 g48 L49 hI) (fun x52 g53 L54 hq56 => ?_)
          obtain ⟨hI, kk0⟩ := hq56
          have hI : zI XT g53 := hI
          have k0_0 : g53 0 13 = g0 0 13 := kk0.trans k0_0
          refine Ex.cb (sX10_exchange_9 fu hfu v3 v4 g53 L54 hI (by omega) (by omega)) (fun x57 g58 L59 hq61 => ?_)
          obtain ⟨hI, kk0⟩ := hq61
          have hI : zI XT g58 := hI
          have k0_0 : g58 0 13 = g0 0 13 := kk0.trans k0_0
          generalize z62q : (v4 + 1) = z62
          have e63 : (Int32.toInt z62) = (Int32.toInt v4) + 1 := by rw [← z62q]; exact ic_addc rfl (by decide) (by omega) (by omega)
          exact ih31 (z62, g58, L59) ⟨(show (0 ≤ (Int32.toInt v3) ∧ (Int32.toInt v3) ≤ 11) from by omega), (show (1 ≤ (Int32.toInt z62) ∧ (Int32.toInt z62) ≤ 12) from by omega), hI, k0_0⟩ (by show 13 - (Int32.toInt z62) < _; omega) (by omega)
      exact lp31 x28 g12 L13 (by omega) (by omega) hI k0_0
  exact lp18 p1 x1 0 g7 L8 (by decide) hI k0_0
set_option maxHeartbeats 4000000 in
set_option maxRecDepth 100000 in
theorem sX11_mostOf (fu : Nat) (hfu : 1180591620717411303424 ≤ fu) (p1 : Int32) (g0 : Nat → Nat → Int32) (L0 : Nat → Nat → Int64) (hI : zI XT g0) : Ex (fX11_mostOf fu p1 g0 L0) (fun (r : Int32) (g1 : Nat → Nat → Int32) (L1 : Nat → Nat → Int64) => zI XT g1 ∧ g1 0 13 = g0 0 13 ∧ (9 ≤ (Int32.toInt r) ∧ (Int32.toInt r) ≤ 99)) := by
  have k0_0 : g0 0 13 = g0 0 13 := rfl
  unfold fX11_mostOf
  refine Ex.ite (fun c1 => ?_) (fun c1 => ?_)
  ·
    exact Ex.ret ⟨hI, k0_0, (by decide)⟩
  ·
    refine Ex.ite (fun c2 => ?_) (fun c2 => ?_)
    ·
      exact Ex.ret ⟨hI, k0_0, (by decide)⟩
    ·
      refine Ex.ite (fun c3 => ?_) (fun c3 => ?_)
      ·
        exact Ex.ret ⟨hI, k0_0, (by decide)⟩
      ·
        exact Ex.ret ⟨hI, k0_0, (by decide)⟩
set_option maxHeartbeats 4000000 in
set_option maxRecDepth 100000 in
theorem sX10_leastBy_9 (fu : Nat) (hfu : 1180591620717411303424 ≤ fu) (p1 : Int32) (p2 : Int32) (p3 : Int32) (g0 : Nat → Nat → Int32) (L0 : Nat → Nat → Int64) (hI : zI XT g0) (hp2 : (0 ≤ (Int32.toInt p2) ∧ (Int32.toInt p2) ≤ 11)) : Ex (fX10_leastBy_9 fu p1 p2 p3 g0 L0) (fun (r : Int32) (g1 : Nat → Nat → Int32) (L1 : Nat → Nat → Int64) => zI XT g1 ∧ g1 0 13 = g0 0 13) := by
  have k0_0 : g0 0 13 = g0 0 13 := rfl
  unfold fX10_leastBy_9
  refine Ex.cb (sX3_value_6 fu hfu p1 p2 g0 L0 hI (by omega)) (fun x1 g2 L3 hq5 => ?_)
  obtain ⟨hI, kk0⟩ := hq5
  have hI : zI XT g2 := hI
  have k0_0 : g2 0 13 = g0 0 13 := kk0.trans k0_0
  refine Ex.cb (sX1_runFrom_8 fu hfu 0 g2 L3 hI (by decide)) (fun x6 g7 L8 hq10 => ?_)
  obtain ⟨hI, kk0⟩ := hq10
  have hI : zI XT g7 := hI
  have k0_0 : g7 0 13 = g0 0 13 := kk0.trans k0_0
  refine Ex.cb (sX4_clear_13 fu hfu g7 L8 hI) (fun x11 g12 L13 hq15 => ?_)
  obtain ⟨hI, kk0⟩ := hq15
  have hI : zI XT g12 := hI
  have k0_0 : g12 0 13 = g0 0 13 := kk0.trans k0_0
  have lp29 : ∀ (v1 : Int32) (v2 : Int32) (v3 : Int32) (v4 : Int32) (v5 : Int32) (g : Nat → Nat → Int32) (L : Nat → Nat → Int64), (0 ≤ (Int32.toInt v2) ∧ (Int32.toInt v2) ≤ 11) → (0 ≤ (Int32.toInt v5) ∧ (Int32.toInt v5) ≤ 100) → zI XT g → g 0 13 = g0 0 13 → Ex (fX10_leastBy_9_l29 fu v1 v2 v3 v4 v5 g L) (fun (r : Int32) (g1 : Nat → Nat → Int32) (L1 : Nat → Nat → Int64) => zI XT g1 ∧ g1 0 13 = g0 0 13) := by
    intro v1 v2 v3 v4 v5 g L hb_v2 hb_v5 hI k0_0
    unfold fX10_leastBy_9_l29
    refine Ex.loop (fun v => ((0 ≤ (Int32.toInt v2) ∧ (Int32.toInt v2) ≤ 11)) ∧ ((0 ≤ (Int32.toInt (v.1)) ∧ (Int32.toInt (v.1)) ≤ 100)) ∧ (zI XT (v.2.1)) ∧ ((v.2.1) 0 13 = g0 0 13)) (fun v => 101 - (Int32.toInt (v.1))) (by omega) (by show 101 - (Int32.toInt v5) < (fu : Int); omega) ⟨hb_v2, hb_v5, hI, k0_0⟩ (fun k29 v hv ih29 => ?_)
    obtain ⟨v5, g, L⟩ := v
    obtain ⟨hb_v2, hb_v5, hI, k0_0⟩ := hv
    have hb_v2 : (0 ≤ (Int32.toInt v2) ∧ (Int32.toInt v2) ≤ 11) := hb_v2
    have hb_v5 : (0 ≤ (Int32.toInt v5) ∧ (Int32.toInt v5) ≤ 100) := hb_v5
    have hI : zI XT g := hI
    have k0_0 : g 0 13 = g0 0 13 := k0_0
    have ih29 : ∀ v' : Int32 × (Nat → Nat → Int32) × (Nat → Nat → Int64), (((0 ≤ (Int32.toInt v2) ∧ (Int32.toInt v2) ≤ 11)) ∧ ((0 ≤ (Int32.toInt (v'.1)) ∧ (Int32.toInt (v'.1)) ≤ 100)) ∧ (zI XT (v'.2.1)) ∧ ((v'.2.1) 0 13 = g0 0 13)) → 101 - (Int32.toInt (v'.1)) < 101 - (Int32.toInt v5) → 0 < 101 - (Int32.toInt v5) → Ex (k29 v') (fun (r : Int32) (g1 : Nat → Nat → Int32) (L1 : Nat → Nat → Int64) => zI XT g1 ∧ g1 0 13 = g0 0 13) := ih29
    show Ex (fX10_leastBy_9_s29 fu v1 v2 v3 v4 k29 v5 g L) (fun (r : Int32) (g1 : Nat → Nat → Int32) (L1 : Nat → Nat → Int64) => zI XT g1 ∧ g1 0 13 = g0 0 13)
    unfold fX10_leastBy_9_s29
    refine Ex.cb (sX11_mostOf fu hfu v1 g L hI) (fun x16 g17 L18 hq20 => ?_)
    obtain ⟨hI, kk0, rb_⟩ := hq20
    have b21 : 9 ≤ (Int32.toInt x16) ∧ (Int32.toInt x16) ≤ 99 := rb_
    have hI : zI XT g17 := hI
    have k0_0 : g17 0 13 = g0 0 13 := kk0.trans k0_0
    refine Ex.ite (fun c22 => ?_) (fun c22 => ?_)
    ·
      have c22 := icc_lt (m := (Int32.toInt x16)) (n := (Int32.toInt v5)) rfl rfl c22
      refine Ex.cb (sX3_put_6 fu hfu v1 v2 v4 g17 L18 hI (by omega)) (fun x23 g24 L25 hq27 => ?_)
      obtain ⟨hI, kk0⟩ := hq27
      have hI : zI XT g24 := hI
      have k0_0 : g24 0 13 = g0 0 13 := kk0.trans k0_0
      refine Ex.cb (sX4_told_13 fu hfu v3 g24 L25 hI) (fun x28 g29 L30 hq32 => ?_)
      obtain ⟨hI, kk0⟩ := hq32
      have hI : zI XT g29 := hI
      have k0_0 : g29 0 13 = g0 0 13 := kk0.trans k0_0
      exact Ex.ret ⟨hI, k0_0⟩
    ·
      have c22 := icc_nlt (m := (Int32.toInt x16)) (n := (Int32.toInt v5)) rfl rfl c22
      refine Ex.cb (sX3_put_6 fu hfu v1 v2 v5 g17 L18 hI (by omega)) (fun x33 g34 L35 hq37 => ?_)
      obtain ⟨hI, kk0⟩ := hq37
      have hI : zI XT g34 := hI
      have k0_0 : g34 0 13 = g0 0 13 := kk0.trans k0_0
      refine Ex.cb (sX1_lostFrom_8 fu hfu v2 g34 L35 hI (by omega)) (fun x38 g39 L40 hq42 => ?_)
      obtain ⟨hI, kk0⟩ := hq42
      have hI : zI XT g39 := hI
      have k0_0 : g39 0 13 = g0 0 13 := kk0.trans k0_0
      refine Ex.cb (sX4_offer_13 fu hfu v5 x38 g39 L40 hI) (fun x43 g44 L45 hq47 => ?_)
      obtain ⟨hI, kk0⟩ := hq47
      have hI : zI XT g44 := hI
      have k0_0 : g44 0 13 = g0 0 13 := kk0.trans k0_0
      generalize z48q : (v5 + 1) = z48
      have e49 : (Int32.toInt z48) = (Int32.toInt v5) + 1 := by rw [← z48q]; exact ic_addc rfl (by decide) (by omega) (by omega)
      exact ih29 (z48, g44, L45) ⟨(show (0 ≤ (Int32.toInt v2) ∧ (Int32.toInt v2) ≤ 11) from by omega), (show (0 ≤ (Int32.toInt z48) ∧ (Int32.toInt z48) ≤ 100) from by omega), hI, k0_0⟩ (by show 101 - (Int32.toInt z48) < _; omega) (by omega)
  exact lp29 p1 p2 p3 x1 0 g12 L13 (by omega) (by decide) hI k0_0
set_option maxHeartbeats 4000000 in
set_option maxRecDepth 100000 in
theorem sX10_lostWithout_9 (fu : Nat) (hfu : 1180591620717411303424 ≤ fu) (p1 : Int32) (p2 : Int32) (g0 : Nat → Nat → Int32) (L0 : Nat → Nat → Int64) (hI : zI XT g0) (hp1 : (0 ≤ (Int32.toInt p1) ∧ (Int32.toInt p1) ≤ 11)) (hp2 : (0 ≤ (Int32.toInt p2) ∧ (Int32.toInt p2) ≤ 11)) : Ex (fX10_lostWithout_9 fu p1 p2 g0 L0) (fun (r : Int32) (g1 : Nat → Nat → Int32) (L1 : Nat → Nat → Int64) => zI XT g1 ∧ g1 0 13 = g0 0 13) := by
  have k0_0 : g0 0 13 = g0 0 13 := rfl
  unfold fX10_lostWithout_9
  refine Ex.ck (by omega) (by omega) ?_
  refine Ex.lti (fun x1 x1e x1i => ?_)
  refine Ex.ck (by omega) (by omega) ?_
  refine Ex.lti (fun x2 x2e x2i => ?_)
  refine Ex.ck (by omega) (by omega) ?_
  refine Ex.sti (hI.updN rfl) (fun g3 g3e hI => ?_)
  have k0_0 : g3 0 13 = g0 0 13 := by rw [g3e]; exact k0_0
  refine Ex.ck (by omega) (by omega) ?_
  refine Ex.sti (hI.updN rfl) (fun g4 g4e hI => ?_)
  have k0_0 : g4 0 13 = g0 0 13 := by rw [g4e]; exact k0_0
  refine Ex.cb (sX1_lostFrom_8 fu hfu 0 g4 L0 hI (by decide)) (fun x5 g6 L7 hq9 => ?_)
  obtain ⟨hI, kk0⟩ := hq9
  have hI : zI XT g6 := hI
  have k0_0 : g6 0 13 = g0 0 13 := kk0.trans k0_0
  refine Ex.ck (by omega) (by omega) ?_
  refine Ex.sti (hI.updN rfl) (fun g10 g10e hI => ?_)
  have k0_0 : g10 0 13 = g0 0 13 := by rw [g10e]; exact k0_0
  refine Ex.ck (by omega) (by omega) ?_
  refine Ex.sti (hI.updN rfl) (fun g11 g11e hI => ?_)
  have k0_0 : g11 0 13 = g0 0 13 := by rw [g11e]; exact k0_0
  exact Ex.ret ⟨hI, k0_0⟩
set_option maxHeartbeats 4000000 in
set_option maxRecDepth 100000 in
theorem sX10_withoutOne_9 (fu : Nat) (hfu : 1180591620717411303424 ≤ fu) (g0 : Nat → Nat → Int32) (L0 : Nat → Nat → Int64) (hI : zI XT g0) : Ex (fX10_withoutOne_9 fu g0 L0) (fun (r : Int32) (g1 : Nat → Nat → Int32) (L1 : Nat → Nat → Int64) => zI XT g1 ∧ g1 0 13 = g0 0 13) := by
  have k0_0 : g0 0 13 = g0 0 13 := rfl
  unfold fX10_withoutOne_9
  refine Ex.cb (sX4_clear_13 fu hfu g0 L0 hI) (fun x1 g2 L3 hq5 => ?_)
  obtain ⟨hI, kk0⟩ := hq5
  have hI : zI XT g2 := hI
  have k0_0 : g2 0 13 = g0 0 13 := kk0.trans k0_0
  have lp9 : ∀ (v1 : Int32) (g : Nat → Nat → Int32) (L : Nat → Nat → Int64), (0 ≤ (Int32.toInt v1) ∧ (Int32.toInt v1) ≤ 12) → zI XT g → g 0 13 = g0 0 13 → Ex (fX10_withoutOne_9_l9 fu v1 g L) (fun (r : Int32) (g1 : Nat → Nat → Int32) (L1 : Nat → Nat → Int64) => zI XT g1 ∧ g1 0 13 = g0 0 13) := by
    intro v1 g L hb_v1 hI k0_0
    unfold fX10_withoutOne_9_l9
    refine Ex.loop (fun v => ((0 ≤ (Int32.toInt (v.1)) ∧ (Int32.toInt (v.1)) ≤ 12)) ∧ (zI XT (v.2.1)) ∧ ((v.2.1) 0 13 = g0 0 13)) (fun v => 13 - (Int32.toInt (v.1))) (by omega) (by show 13 - (Int32.toInt v1) < (fu : Int); omega) ⟨hb_v1, hI, k0_0⟩ (fun k9 v hv ih9 => ?_)
    obtain ⟨v1, g, L⟩ := v
    obtain ⟨hb_v1, hI, k0_0⟩ := hv
    have hb_v1 : (0 ≤ (Int32.toInt v1) ∧ (Int32.toInt v1) ≤ 12) := hb_v1
    have hI : zI XT g := hI
    have k0_0 : g 0 13 = g0 0 13 := k0_0
    have ih9 : ∀ v' : Int32 × (Nat → Nat → Int32) × (Nat → Nat → Int64), (((0 ≤ (Int32.toInt (v'.1)) ∧ (Int32.toInt (v'.1)) ≤ 12)) ∧ (zI XT (v'.2.1)) ∧ ((v'.2.1) 0 13 = g0 0 13)) → 13 - (Int32.toInt (v'.1)) < 13 - (Int32.toInt v1) → 0 < 13 - (Int32.toInt v1) → Ex (k9 v') (fun (r : Int32) (g1 : Nat → Nat → Int32) (L1 : Nat → Nat → Int64) => zI XT g1 ∧ g1 0 13 = g0 0 13) := ih9
    show Ex (fX10_withoutOne_9_s9 fu k9 v1 g L) (fun (r : Int32) (g1 : Nat → Nat → Int32) (L1 : Nat → Nat → Int64) => zI XT g1 ∧ g1 0 13 = g0 0 13)
    unfold fX10_withoutOne_9_s9
    refine Ex.cb (sX10_lessonCount_9 fu hfu g L hI) (fun x6 g7 L8 hq10 => ?_)
    obtain ⟨hI, kk0, rb_⟩ := hq10
    have b11 : 0 ≤ (Int32.toInt x6) ∧ (Int32.toInt x6) ≤ 12 := rb_
    have hI : zI XT g7 := hI
    have k0_0 : g7 0 13 = g0 0 13 := kk0.trans k0_0
    refine Ex.ite (fun c12 => ?_) (fun c12 => ?_)
    ·
      have c12 := icc_le (m := (Int32.toInt x6)) (n := (Int32.toInt v1)) rfl rfl c12
      refine Ex.cb (sX4_told_13 fu hfu 0 g7 L8 hI) (fun x13 g14 L15 hq17 => ?_)
      obtain ⟨hI, kk0⟩ := hq17
      have hI : zI XT g14 := hI
      have k0_0 : g14 0 13 = g0 0 13 := kk0.trans k0_0
      exact Ex.ret ⟨hI, k0_0⟩
    ·
      have c12 := icc_nle (m := (Int32.toInt x6)) (n := (Int32.toInt v1)) rfl rfl c12
      refine Ex.cb (sX10_lostWithout_9 fu hfu v1 v1 g7 L8 hI (by omega) (by omega)) (fun x18 g19 L20 hq22 => ?_)
      obtain ⟨hI, kk0⟩ := hq22
      have hI : zI XT g19 := hI
      have k0_0 : g19 0 13 = g0 0 13 := kk0.trans k0_0
      refine Ex.cb (sX4_offer_13 fu hfu v1 x18 g19 L20 hI) (fun x23 g24 L25 hq27 => ?_)
      obtain ⟨hI, kk0⟩ := hq27
      have hI : zI XT g24 := hI
      have k0_0 : g24 0 13 = g0 0 13 := kk0.trans k0_0
      generalize z28q : (v1 + 1) = z28
      have e29 : (Int32.toInt z28) = (Int32.toInt v1) + 1 := by rw [← z28q]; exact ic_addc rfl (by decide) (by omega) (by omega)
      exact ih9 (z28, g24, L25) ⟨(show (0 ≤ (Int32.toInt z28) ∧ (Int32.toInt z28) ≤ 12) from by omega), hI, k0_0⟩ (by show 13 - (Int32.toInt z28) < _; omega) (by omega)
  exact lp9 0 g2 L3 (by decide) hI k0_0
set_option maxHeartbeats 4000000 in
set_option maxRecDepth 100000 in
theorem sX10_withoutTwo_9 (fu : Nat) (hfu : 1180591620717411303424 ≤ fu) (p1 : Int32) (g0 : Nat → Nat → Int32) (L0 : Nat → Nat → Int64) (hI : zI XT g0) : Ex (fX10_withoutTwo_9 fu p1 g0 L0) (fun (r : Int32) (g1 : Nat → Nat → Int32) (L1 : Nat → Nat → Int64) => zI XT g1 ∧ g1 0 13 = g0 0 13) := by
  have k0_0 : g0 0 13 = g0 0 13 := rfl
  unfold fX10_withoutTwo_9
  refine Ex.cb (sX4_clear_13 fu hfu g0 L0 hI) (fun x1 g2 L3 hq5 => ?_)
  obtain ⟨hI, kk0⟩ := hq5
  have hI : zI XT g2 := hI
  have k0_0 : g2 0 13 = g0 0 13 := kk0.trans k0_0
  have lp9 : ∀ (v1 : Int32) (v2 : Int32) (g : Nat → Nat → Int32) (L : Nat → Nat → Int64), (0 ≤ (Int32.toInt v2) ∧ (Int32.toInt v2) ≤ 12) → zI XT g → g 0 13 = g0 0 13 → Ex (fX10_withoutTwo_9_l9 fu v1 v2 g L) (fun (r : Int32) (g1 : Nat → Nat → Int32) (L1 : Nat → Nat → Int64) => zI XT g1 ∧ g1 0 13 = g0 0 13) := by
    intro v1 v2 g L hb_v2 hI k0_0
    unfold fX10_withoutTwo_9_l9
    refine Ex.loop (fun v => ((0 ≤ (Int32.toInt (v.1)) ∧ (Int32.toInt (v.1)) ≤ 12)) ∧ (zI XT (v.2.1)) ∧ ((v.2.1) 0 13 = g0 0 13)) (fun v => 13 - (Int32.toInt (v.1))) (by omega) (by show 13 - (Int32.toInt v2) < (fu : Int); omega) ⟨hb_v2, hI, k0_0⟩ (fun k9 v hv ih9 => ?_)
    obtain ⟨v2, g, L⟩ := v
    obtain ⟨hb_v2, hI, k0_0⟩ := hv
    have hb_v2 : (0 ≤ (Int32.toInt v2) ∧ (Int32.toInt v2) ≤ 12) := hb_v2
    have hI : zI XT g := hI
    have k0_0 : g 0 13 = g0 0 13 := k0_0
    have ih9 : ∀ v' : Int32 × (Nat → Nat → Int32) × (Nat → Nat → Int64), (((0 ≤ (Int32.toInt (v'.1)) ∧ (Int32.toInt (v'.1)) ≤ 12)) ∧ (zI XT (v'.2.1)) ∧ ((v'.2.1) 0 13 = g0 0 13)) → 13 - (Int32.toInt (v'.1)) < 13 - (Int32.toInt v2) → 0 < 13 - (Int32.toInt v2) → Ex (k9 v') (fun (r : Int32) (g1 : Nat → Nat → Int32) (L1 : Nat → Nat → Int64) => zI XT g1 ∧ g1 0 13 = g0 0 13) := ih9
    show Ex (fX10_withoutTwo_9_s9 fu v1 k9 v2 g L) (fun (r : Int32) (g1 : Nat → Nat → Int32) (L1 : Nat → Nat → Int64) => zI XT g1 ∧ g1 0 13 = g0 0 13)
    unfold fX10_withoutTwo_9_s9
    refine Ex.cb (sX10_lessonCount_9 fu hfu g L hI) (fun x6 g7 L8 hq10 => ?_)
    obtain ⟨hI, kk0, rb_⟩ := hq10
    have b11 : 0 ≤ (Int32.toInt x6) ∧ (Int32.toInt x6) ≤ 12 := rb_
    have hI : zI XT g7 := hI
    have k0_0 : g7 0 13 = g0 0 13 := kk0.trans k0_0
    refine Ex.ite (fun c12 => ?_) (fun c12 => ?_)
    ·
      have c12 := icc_le (m := (Int32.toInt x6)) (n := (Int32.toInt v2)) rfl rfl c12
      refine Ex.cb (sX4_told_13 fu hfu v1 g7 L8 hI) (fun x13 g14 L15 hq17 => ?_)
      obtain ⟨hI, kk0⟩ := hq17
      have hI : zI XT g14 := hI
      have k0_0 : g14 0 13 = g0 0 13 := kk0.trans k0_0
      exact Ex.ret ⟨hI, k0_0⟩
    ·
      have c12 := icc_nle (m := (Int32.toInt x6)) (n := (Int32.toInt v2)) rfl rfl c12
      generalize z18q : (v2 + 1) = z18
      have e19 : (Int32.toInt z18) = (Int32.toInt v2) + 1 := by rw [← z18q]; exact ic_addc rfl (by decide) (by omega) (by omega)
      refine Ex.lti (fun x20 x20e x20i => ?_)
      have lp21 : ∀ (v3 : Int32) (g : Nat → Nat → Int32) (L : Nat → Nat → Int64), (0 ≤ (Int32.toInt v2) ∧ (Int32.toInt v2) ≤ 11) → (1 ≤ (Int32.toInt v3) ∧ (Int32.toInt v3) ≤ 12) → zI XT g → g 0 13 = g0 0 13 → Ex (fX10_withoutTwo_9_l21 fu k9 v1 v2 v3 g L) (fun (r : Int32) (g1 : Nat → Nat → Int32) (L1 : Nat → Nat → Int64) => zI XT g1 ∧ g1 0 13 = g0 0 13) := by
        intro v3 g L hb_v2 hb_v3 hI k0_0
        unfold fX10_withoutTwo_9_l21
        refine Ex.loop (fun v => ((0 ≤ (Int32.toInt v2) ∧ (Int32.toInt v2) ≤ 11)) ∧ ((1 ≤ (Int32.toInt (v.1)) ∧ (Int32.toInt (v.1)) ≤ 12)) ∧ (zI XT (v.2.1)) ∧ ((v.2.1) 0 13 = g0 0 13)) (fun v => 13 - (Int32.toInt (v.1))) (by omega) (by show 13 - (Int32.toInt v3) < (fu : Int); omega) ⟨hb_v2, hb_v3, hI, k0_0⟩ (fun k21 v hv ih21 => ?_)
        obtain ⟨v3, g, L⟩ := v
        obtain ⟨hb_v2, hb_v3, hI, k0_0⟩ := hv
        have hb_v2 : (0 ≤ (Int32.toInt v2) ∧ (Int32.toInt v2) ≤ 11) := hb_v2
        have hb_v3 : (1 ≤ (Int32.toInt v3) ∧ (Int32.toInt v3) ≤ 12) := hb_v3
        have hI : zI XT g := hI
        have k0_0 : g 0 13 = g0 0 13 := k0_0
        have ih21 : ∀ v' : Int32 × (Nat → Nat → Int32) × (Nat → Nat → Int64), (((0 ≤ (Int32.toInt v2) ∧ (Int32.toInt v2) ≤ 11)) ∧ ((1 ≤ (Int32.toInt (v'.1)) ∧ (Int32.toInt (v'.1)) ≤ 12)) ∧ (zI XT (v'.2.1)) ∧ ((v'.2.1) 0 13 = g0 0 13)) → 13 - (Int32.toInt (v'.1)) < 13 - (Int32.toInt v3) → 0 < 13 - (Int32.toInt v3) → Ex (k21 v') (fun (r : Int32) (g1 : Nat → Nat → Int32) (L1 : Nat → Nat → Int64) => zI XT g1 ∧ g1 0 13 = g0 0 13) := ih21
        show Ex (fX10_withoutTwo_9_s21 fu k9 v1 v2 k21 v3 g L) (fun (r : Int32) (g1 : Nat → Nat → Int32) (L1 : Nat → Nat → Int64) => zI XT g1 ∧ g1 0 13 = g0 0 13)
        unfold fX10_withoutTwo_9_s21
        refine Ex.cb (sX10_lessonCount_9 fu hfu g L hI) (fun x21 g22 L23 hq25 => ?_)
        obtain ⟨hI, kk0, rb_⟩ := hq25
        have b26 : 0 ≤ (Int32.toInt x21) ∧ (Int32.toInt x21) ≤ 12 := rb_
        have hI : zI XT g22 := hI
        have k0_0 : g22 0 13 = g0 0 13 := kk0.trans k0_0
        refine Ex.ite (fun c27 => ?_) (fun c27 => ?_)
        ·
          have c27 := icc_le (m := (Int32.toInt x21)) (n := (Int32.toInt v3)) rfl rfl c27
          generalize z28q : (v2 + 1) = z28
          have e29 : (Int32.toInt z28) = (Int32.toInt v2) + 1 := by rw [← z28q]; exact ic_addc rfl (by decide) (by omega) (by omega)
          exact ih9 (z28, g22, L23) ⟨(show (0 ≤ (Int32.toInt z28) ∧ (Int32.toInt z28) ≤ 12) from by omega), hI, k0_0⟩ (by show 13 - (Int32.toInt z28) < _; omega) (by omega)
        ·
          have c27 := icc_nle (m := (Int32.toInt x21)) (n := (Int32.toInt v3)) rfl rfl c27
          generalize z30q : (100 * v2) = z30
          have e31 : (Int32.toInt z30) = 100 * (Int32.toInt v2) := by rw [← z30q]; exact ic_mulc (by decide) rfl (by omega) (by omega)
          generalize z32q : (z30 + v3) = z32
          have e33 : (Int32.toInt z32) = (Int32.toInt z30) + (Int32.toInt v3) := by rw [← z32q]; exact ic_addc rfl rfl (by omega) (by omega)
          refine Ex.cb (sX10_lostWithout_9 fu hfu v2 v3 g22 L23 hI (by omega) (by omega)) (fun x34 g35 L36 hq38 => ?_)
          obtain ⟨hI, kk0⟩ := hq38
          have hI : zI XT g35 := hI
          have k0_0 : g35 0 13 = g0 0 13 := kk0.trans k0_0
          refine Ex.cb (sX4_offer_13 fu hfu z32 x34 g35 L36 hI) (fun x39 g40 L41 hq43 => ?_)
          obtain ⟨hI, kk0⟩ := hq43
          have hI : zI XT g40 := hI
          have k0_0 : g40 0 13 = g0 0 13 := kk0.trans k0_0
          generalize z44q : (v3 + 1) = z44
          have e45 : (Int32.toInt z44) = (Int32.toInt v3) + 1 := by rw [← z44q]; exact ic_addc rfl (by decide) (by omega) (by omega)
          exact ih21 (z44, g40, L41) ⟨(show (0 ≤ (Int32.toInt v2) ∧ (Int32.toInt v2) ≤ 11) from by omega), (show (1 ≤ (Int32.toInt z44) ∧ (Int32.toInt z44) ≤ 12) from by omega), hI, k0_0⟩ (by show 13 - (Int32.toInt z44) < _; omega) (by omega)
      exact lp21 x20 g7 L8 (by omega) (by omega) hI k0_0
  exact lp9 p1 0 g2 L3 (by decide) hI k0_0
set_option maxHeartbeats 4000000 in
set_option maxRecDepth 100000 in
theorem sX10_lostByRule_9 (fu : Nat) (hfu : 1180591620717411303424 ≤ fu) (p1 : Int32) (g0 : Nat → Nat → Int32) (L0 : Nat → Nat → Int64) (hI : zI XT g0) : Ex (fX10_lostByRule_9 fu p1 g0 L0) (fun (r : Int32) (g1 : Nat → Nat → Int32) (L1 : Nat → Nat → Int64) => zI XT g1 ∧ g1 0 13 = g0 0 13) := by
  have k0_0 : g0 0 13 = g0 0 13 := rfl
  unfold fX10_lostByRule_9
  refine Ex.lti (fun x1 x1e x1i => ?_)
  refine Ex.sti (hI.updN rfl) (fun g2 g2e hI => ?_)
  have k0_0 : g2 0 13 = g0 0 13 := by rw [g2e]; exact k0_0
  refine Ex.cb (sX1_lostFrom_8 fu hfu 0 g2 L0 hI (by decide)) (fun x3 g4 L5 hq7 => ?_)
  obtain ⟨hI, kk0⟩ := hq7
  have hI : zI XT g4 := hI
  have k0_0 : g4 0 13 = g0 0 13 := kk0.trans k0_0
  refine Ex.sti (hI.updN rfl) (fun g8 g8e hI => ?_)
  have k0_0 : g8 0 13 = g0 0 13 := by rw [g8e]; exact k0_0
  exact Ex.ret ⟨hI, k0_0⟩
set_option maxHeartbeats 4000000 in
set_option maxRecDepth 100000 in
theorem sX10_bestRule_9 (fu : Nat) (hfu : 1180591620717411303424 ≤ fu) (g0 : Nat → Nat → Int32) (L0 : Nat → Nat → Int64) (hI : zI XT g0) : Ex (fX10_bestRule_9 fu g0 L0) (fun (r : Int32) (g1 : Nat → Nat → Int32) (L1 : Nat → Nat → Int64) => zI XT g1 ∧ g1 0 13 = g0 0 13) := by
  have k0_0 : g0 0 13 = g0 0 13 := rfl
  unfold fX10_bestRule_9
  refine Ex.cb (sX4_clear_13 fu hfu g0 L0 hI) (fun x1 g2 L3 hq5 => ?_)
  obtain ⟨hI, kk0⟩ := hq5
  have hI : zI XT g2 := hI
  have k0_0 : g2 0 13 = g0 0 13 := kk0.trans k0_0
  have lp9 : ∀ (v1 : Int32) (g : Nat → Nat → Int32) (L : Nat → Nat → Int64), ((-1) ≤ (Int32.toInt v1) ∧ (Int32.toInt v1) ≤ 4) → zI XT g → g 0 13 = g0 0 13 → Ex (fX10_bestRule_9_l9 fu v1 g L) (fun (r : Int32) (g1 : Nat → Nat → Int32) (L1 : Nat → Nat → Int64) => zI XT g1 ∧ g1 0 13 = g0 0 13) := by
    intro v1 g L hb_v1 hI k0_0
    unfold fX10_bestRule_9_l9
    refine Ex.loop (fun v => (((-1) ≤ (Int32.toInt (v.1)) ∧ (Int32.toInt (v.1)) ≤ 4)) ∧ (zI XT (v.2.1)) ∧ ((v.2.1) 0 13 = g0 0 13)) (fun v => 5 - (Int32.toInt (v.1))) (by omega) (by show 5 - (Int32.toInt v1) < (fu : Int); omega) ⟨hb_v1, hI, k0_0⟩ (fun k9 v hv ih9 => ?_)
    obtain ⟨v1, g, L⟩ := v
    obtain ⟨hb_v1, hI, k0_0⟩ := hv
    have hb_v1 : ((-1) ≤ (Int32.toInt v1) ∧ (Int32.toInt v1) ≤ 4) := hb_v1
    have hI : zI XT g := hI
    have k0_0 : g 0 13 = g0 0 13 := k0_0
    have ih9 : ∀ v' : Int32 × (Nat → Nat → Int32) × (Nat → Nat → Int64), ((((-1) ≤ (Int32.toInt (v'.1)) ∧ (Int32.toInt (v'.1)) ≤ 4)) ∧ (zI XT (v'.2.1)) ∧ ((v'.2.1) 0 13 = g0 0 13)) → 5 - (Int32.toInt (v'.1)) < 5 - (Int32.toInt v1) → 0 < 5 - (Int32.toInt v1) → Ex (k9 v') (fun (r : Int32) (g1 : Nat → Nat → Int32) (L1 : Nat → Nat → Int64) => zI XT g1 ∧ g1 0 13 = g0 0 13) := ih9
    show Ex (fX10_bestRule_9_s9 fu k9 v1 g L) (fun (r : Int32) (g1 : Nat → Nat → Int32) (L1 : Nat → Nat → Int64) => zI XT g1 ∧ g1 0 13 = g0 0 13)
    unfold fX10_bestRule_9_s9
    have b6 : 0 ≤ (Int32.toInt (g 3 3)) ∧ (Int32.toInt (g 3 3)) ≤ 4 := hI 3 3 0 4 rfl
    refine Ex.ite (fun c7 => ?_) (fun c7 => ?_)
    ·
      have c7 := icc_le (m := (Int32.toInt (g 3 3))) (n := (Int32.toInt v1)) rfl rfl c7
      refine Ex.cb (sX4_told_13 fu hfu 0 g L hI) (fun x8 g9 L10 hq12 => ?_)
      obtain ⟨hI, kk0⟩ := hq12
      have hI : zI XT g9 := hI
      have k0_0 : g9 0 13 = g0 0 13 := kk0.trans k0_0
      exact Ex.ret ⟨hI, k0_0⟩
    ·
      have c7 := icc_nle (m := (Int32.toInt (g 3 3))) (n := (Int32.toInt v1)) rfl rfl c7
      refine Ex.cb (sX10_lostByRule_9 fu hfu v1 g L hI) (fun x13 g14 L15 hq17 => ?_)
      obtain ⟨hI, kk0⟩ := hq17
      have hI : zI XT g14 := hI
      have k0_0 : g14 0 13 = g0 0 13 := kk0.trans k0_0
      refine Ex.cb (sX4_offer_13 fu hfu v1 x13 g14 L15 hI) (fun x18 g19 L20 hq22 => ?_)
      obtain ⟨hI, kk0⟩ := hq22
      have hI : zI XT g19 := hI
      have k0_0 : g19 0 13 = g0 0 13 := kk0.trans k0_0
      generalize z23q : (v1 + 1) = z23
      have e24 : (Int32.toInt z23) = (Int32.toInt v1) + 1 := by rw [← z23q]; exact ic_addc rfl (by decide) (by omega) (by omega)
      exact ih9 (z23, g19, L20) ⟨(show ((-1) ≤ (Int32.toInt z23) ∧ (Int32.toInt z23) ≤ 4) from by omega), hI, k0_0⟩ (by show 5 - (Int32.toInt z23) < _; omega) (by omega)
  exact lp9 (-1) g2 L3 (by decide) hI k0_0
set_option maxHeartbeats 4000000 in
set_option maxRecDepth 100000 in
theorem sX10_worthOfBell_9 (fu : Nat) (hfu : 1180591620717411303424 ≤ fu) (p1 : Int32) (g0 : Nat → Nat → Int32) (L0 : Nat → Nat → Int64) (hI : zI XT g0) : Ex (fX10_worthOfBell_9 fu p1 g0 L0) (fun (r : Int32) (g1 : Nat → Nat → Int32) (L1 : Nat → Nat → Int64) => zI XT g1 ∧ g1 0 13 = g0 0 13) := by
  have k0_0 : g0 0 13 = g0 0 13 := rfl
  unfold fX10_worthOfBell_9
  refine Ex.cb (sX1_lostFrom_8 fu hfu 0 g0 L0 hI (by decide)) (fun x1 g2 L3 hq5 => ?_)
  obtain ⟨hI, kk0⟩ := hq5
  have hI : zI XT g2 := hI
  have k0_0 : g2 0 13 = g0 0 13 := kk0.trans k0_0
  refine Ex.stA (hI.cpy (fun _ _ => rfl)) (fun g6 g6e hI => ?_)
  have k0_0 : g6 0 13 = g0 0 13 := by rw [g6e]; exact k0_0
  have lp29 : ∀ (v1 : Int32) (v2 : Int32) (v3 : Int32) (g : Nat → Nat → Int32) (L : Nat → Nat → Int64), (0 ≤ (Int32.toInt v3) ∧ (Int32.toInt v3) ≤ 12) → zI XT g → g 0 13 = g0 0 13 → Ex (fX10_worthOfBell_9_l29 fu v1 v2 v3 g L) (fun (r : Int32) (g1 : Nat → Nat → Int32) (L1 : Nat → Nat → Int64) => zI XT g1 ∧ g1 0 13 = g0 0 13) := by
    intro v1 v2 v3 g L hb_v3 hI k0_0
    unfold fX10_worthOfBell_9_l29
    refine Ex.loop (fun v => ((0 ≤ (Int32.toInt (v.1)) ∧ (Int32.toInt (v.1)) ≤ 12)) ∧ (zI XT (v.2.1)) ∧ ((v.2.1) 0 13 = g0 0 13)) (fun v => 13 - (Int32.toInt (v.1))) (by omega) (by show 13 - (Int32.toInt v3) < (fu : Int); omega) ⟨hb_v3, hI, k0_0⟩ (fun k29 v hv ih29 => ?_)
    obtain ⟨v3, g, L⟩ := v
    obtain ⟨hb_v3, hI, k0_0⟩ := hv
    have hb_v3 : (0 ≤ (Int32.toInt v3) ∧ (Int32.toInt v3) ≤ 12) := hb_v3
    have hI : zI XT g := hI
    have k0_0 : g 0 13 = g0 0 13 := k0_0
    have ih29 : ∀ v' : Int32 × (Nat → Nat → Int32) × (Nat → Nat → Int64), (((0 ≤ (Int32.toInt (v'.1)) ∧ (Int32.toInt (v'.1)) ≤ 12)) ∧ (zI XT (v'.2.1)) ∧ ((v'.2.1) 0 13 = g0 0 13)) → 13 - (Int32.toInt (v'.1)) < 13 - (Int32.toInt v3) → 0 < 13 - (Int32.toInt v3) → Ex (k29 v') (fun (r : Int32) (g1 : Nat → Nat → Int32) (L1 : Nat → Nat → Int64) => zI XT g1 ∧ g1 0 13 = g0 0 13) := ih29
    show Ex (fX10_worthOfBell_9_s29 fu v1 v2 k29 v3 g L) (fun (r : Int32) (g1 : Nat → Nat → Int32) (L1 : Nat → Nat → Int64) => zI XT g1 ∧ g1 0 13 = g0 0 13)
    unfold fX10_worthOfBell_9_s29
    refine Ex.cb (sX10_lessonCount_9 fu hfu g L hI) (fun x7 g8 L9 hq11 => ?_)
    obtain ⟨hI, kk0, rb_⟩ := hq11
    have b12 : 0 ≤ (Int32.toInt x7) ∧ (Int32.toInt x7) ≤ 12 := rb_
    have hI : zI XT g8 := hI
    have k0_0 : g8 0 13 = g0 0 13 := kk0.trans k0_0
    refine Ex.ite (fun c13 => ?_) (fun c13 => ?_)
    ·
      have c13 := icc_le (m := (Int32.toInt x7)) (n := (Int32.toInt v3)) rfl rfl c13
      refine Ex.cb (sX1_lostFrom_8 fu hfu 0 g8 L9 hI (by decide)) (fun x14 g15 L16 hq18 => ?_)
      obtain ⟨hI, kk0⟩ := hq18
      have hI : zI XT g15 := hI
      have k0_0 : g15 0 13 = g0 0 13 := kk0.trans k0_0
      refine Ex.stA (hI.cpy (fun _ _ => rfl)) (fun g19 g19e hI => ?_)
      have k0_0 : g19 0 13 = g0 0 13 := by rw [g19e]; exact k0_0
      generalize z20q : (v2 - x14) = z20
      exact Ex.ret ⟨hI, k0_0⟩
    ·
      have c13 := icc_nle (m := (Int32.toInt x7)) (n := (Int32.toInt v3)) rfl rfl c13
      refine Ex.ck (by omega) (by omega) ?_
      generalize z21q : (if v1 < (g8 49 (Int32.toNatClampNeg v3)) then v1 else (g8 49 (Int32.toNatClampNeg v3))) = z21
      have b22 := ic_min (x := (g8 49 (Int32.toNatClampNeg v3))) (y := v1) (m := (Int32.toInt (g8 49 (Int32.toNatClampNeg v3)))) (n := (Int32.toInt v1)) rfl rfl
      rw [z21q] at b22
      refine Ex.ck (by omega) (by omega) ?_
      refine Ex.sti (hI.updN rfl) (fun g23 g23e hI => ?_)
      have k0_0 : g23 0 13 = g0 0 13 := by rw [g23e]; exact k0_0
      generalize z24q : (v3 + 1) = z24
      have e25 : (Int32.toInt z24) = (Int32.toInt v3) + 1 := by rw [← z24q]; exact ic_addc rfl (by decide) (by omega) (by omega)
      exact ih29 (z24, g23, L9) ⟨(show (0 ≤ (Int32.toInt z24) ∧ (Int32.toInt z24) ≤ 12) from by omega), hI, k0_0⟩ (by show 13 - (Int32.toInt z24) < _; omega) (by omega)
  exact lp29 p1 x1 0 g6 L3 (by decide) hI k0_0
set_option maxHeartbeats 4000000 in
set_option maxRecDepth 100000 in
theorem sX10_isAsSeen_9 (fu : Nat) (hfu : 1180591620717411303424 ≤ fu) (g0 : Nat → Nat → Int32) (L0 : Nat → Nat → Int64) (hI : zI XT g0) : Ex (fX10_isAsSeen_9 fu g0 L0) (fun (r : Int32) (g1 : Nat → Nat → Int32) (L1 : Nat → Nat → Int64) => zI XT g1 ∧ g1 0 13 = g0 0 13 ∧ (0 ≤ (Int32.toInt r) ∧ (Int32.toInt r) ≤ 1)) := by
  have k0_0 : g0 0 13 = g0 0 13 := rfl
  unfold fX10_isAsSeen_9
  have lp2 : ∀ (v1 : Int32) (g : Nat → Nat → Int32) (L : Nat → Nat → Int64), (0 ≤ (Int32.toInt v1) ∧ (Int32.toInt v1) ≤ 8) → zI XT g → g 0 13 = g0 0 13 → Ex (fX10_isAsSeen_9_l2 fu v1 g L) (fun (r : Int32) (g1 : Nat → Nat → Int32) (L1 : Nat → Nat → Int64) => zI XT g1 ∧ g1 0 13 = g0 0 13 ∧ (0 ≤ (Int32.toInt r) ∧ (Int32.toInt r) ≤ 1)) := by
    intro v1 g L hb_v1 hI k0_0
    unfold fX10_isAsSeen_9_l2
    refine Ex.loop (fun v => ((0 ≤ (Int32.toInt (v.1)) ∧ (Int32.toInt (v.1)) ≤ 8)) ∧ (zI XT (v.2.1)) ∧ ((v.2.1) 0 13 = g0 0 13)) (fun v => 9 - (Int32.toInt (v.1))) (by omega) (by show 9 - (Int32.toInt v1) < (fu : Int); omega) ⟨hb_v1, hI, k0_0⟩ (fun k2 v hv ih2 => ?_)
    obtain ⟨v1, g, L⟩ := v
    obtain ⟨hb_v1, hI, k0_0⟩ := hv
    have hb_v1 : (0 ≤ (Int32.toInt v1) ∧ (Int32.toInt v1) ≤ 8) := hb_v1
    have hI : zI XT g := hI
    have k0_0 : g 0 13 = g0 0 13 := k0_0
    have ih2 : ∀ v' : Int32 × (Nat → Nat → Int32) × (Nat → Nat → Int64), (((0 ≤ (Int32.toInt (v'.1)) ∧ (Int32.toInt (v'.1)) ≤ 8)) ∧ (zI XT (v'.2.1)) ∧ ((v'.2.1) 0 13 = g0 0 13)) → 9 - (Int32.toInt (v'.1)) < 9 - (Int32.toInt v1) → 0 < 9 - (Int32.toInt v1) → Ex (k2 v') (fun (r : Int32) (g1 : Nat → Nat → Int32) (L1 : Nat → Nat → Int64) => zI XT g1 ∧ g1 0 13 = g0 0 13 ∧ (0 ≤ (Int32.toInt r) ∧ (Int32.toInt r) ≤ 1)) := ih2
    show Ex (fX10_isAsSeen_9_s2 fu k2 v1 g L) (fun (r : Int32) (g1 : Nat → Nat → Int32) (L1 : Nat → Nat → Int64) => zI XT g1 ∧ g1 0 13 = g0 0 13 ∧ (0 ≤ (Int32.toInt r) ∧ (Int32.toInt r) ≤ 1))
    unfold fX10_isAsSeen_9_s2
    have b1 : 0 ≤ (Int32.toInt (g 6 10)) ∧ (Int32.toInt (g 6 10)) ≤ 8 := hI 6 10 0 8 rfl
    refine Ex.ite (fun c2 => ?_) (fun c2 => ?_)
    ·
      have c2 := icc_le (m := (Int32.toInt (g 6 10))) (n := (Int32.toInt v1)) rfl rfl c2
      refine Ex.ckb rfl ?_
      exact Ex.ret ⟨hI, k0_0, (by decide)⟩
    ·
      have c2 := icc_nle (m := (Int32.toInt (g 6 10))) (n := (Int32.toInt v1)) rfl rfl c2
      refine Ex.ck (by omega) (by omega) ?_
      have b3 : 0 ≤ (Int32.toInt (g 32 (Int32.toNatClampNeg v1))) ∧ (Int32.toInt (g 32 (Int32.toNatClampNeg v1))) ≤ 11 := hI 32 _ 0 11 rfl
      refine Ex.cb (sX1_late_8 fu hfu (g 32 (Int32.toNatClampNeg v1)) g L hI (by omega)) (fun x4 g5 L6 hq8 => ?_)
      obtain ⟨hI, kk0⟩ := hq8
      have hI : zI XT g5 := hI
      have k0_0 : g5 0 13 = g0 0 13 := kk0.trans k0_0
      refine Ex.ck (by omega) (by omega) ?_
      refine Ex.ite (fun c9 => ?_) (fun c9 => ?_)
      ·
        have c9 := icc_eq (m := (Int32.toInt x4)) (n := (Int32.toInt (g5 33 (Int32.toNatClampNeg v1)))) rfl rfl c9
        generalize z10q : (v1 + 1) = z10
        have e11 : (Int32.toInt z10) = (Int32.toInt v1) + 1 := by rw [← z10q]; exact ic_addc rfl (by decide) (by omega) (by omega)
        exact ih2 (z10, g5, L6) ⟨(show (0 ≤ (Int32.toInt z10) ∧ (Int32.toInt z10) ≤ 8) from by omega), hI, k0_0⟩ (by show 9 - (Int32.toInt z10) < _; omega) (by omega)
      ·
        have c9 := icc_neq (m := (Int32.toInt x4)) (n := (Int32.toInt (g5 33 (Int32.toNatClampNeg v1)))) rfl rfl c9
        refine Ex.ckb rfl ?_
        exact Ex.ret ⟨hI, k0_0, (by decide)⟩
  exact lp2 0 g0 L0 (by decide) hI k0_0
set_option maxHeartbeats 4000000 in
set_option maxRecDepth 100000 in
theorem sX10_addBeginner_9 (fu : Nat) (hfu : 1180591620717411303424 ≤ fu) (p1 : Int32) (p2 : Int32) (g0 : Nat → Nat → Int32) (L0 : Nat → Nat → Int64) (hI : zI XT g0) (hp1 : (0 ≤ (Int32.toInt p1) ∧ (Int32.toInt p1) ≤ 11)) : Ex (fX10_addBeginner_9 fu p1 p2 g0 L0) (fun (r : Unit) (g1 : Nat → Nat → Int32) (L1 : Nat → Nat → Int64) => zI XT g1 ∧ g1 0 13 = g0 0 13) := by
  have k0_0 : g0 0 13 = g0 0 13 := rfl
  unfold fX10_addBeginner_9
  have J38 : ∀ (g : Nat → Nat → Int32) (L : Nat → Nat → Int64), zI XT g → g 0 13 = g0 0 13 → Ex (fX10_addBeginner_9_p38 fu g L) (fun (r : Unit) (g1 : Nat → Nat → Int32) (L1 : Nat → Nat → Int64) => zI XT g1 ∧ g1 0 13 = g0 0 13) := by
    intro g L hI k0_0
    unfold fX10_addBeginner_9_p38
    generalize z1q : ((g 9 4) + 1) = z1
    refine Ex.sti (hI.updN rfl) (fun g2 g2e hI => ?_)
    have k0_0 : g2 0 13 = g0 0 13 := by rw [g2e]; exact k0_0
    exact Ex.ret ⟨hI, k0_0⟩
  refine Ex.ite (fun c3 => ?_) (fun c3 => ?_)
  ·
    have c3 := icc_eq (m := (Int32.toInt (g0 9 4))) (n := 0) rfl (by decide) c3
    generalize z4q : (100 * p1) = z4
    have e5 : (Int32.toInt z4) = 100 * (Int32.toInt p1) := by rw [← z4q]; exact ic_mulc (by decide) rfl (by omega) (by omega)
    generalize z6q : (z4 + p2) = z6
    refine Ex.sti (hI.updN rfl) (fun g7 g7e hI => ?_)
    have k0_0 : g7 0 13 = g0 0 13 := by rw [g7e]; exact k0_0
    refine Ex.sti (hI.updN rfl) (fun g8 g8e hI => ?_)
    have k0_0 : g8 0 13 = g0 0 13 := by rw [g8e]; exact k0_0
    exact J38 g8 L0 hI k0_0
  ·
    have c3 := icc_neq (m := (Int32.toInt (g0 9 4))) (n := 0) rfl (by decide) c3
    refine Ex.ite (fun c9 => ?_) (fun c9 => ?_)
    ·
      have c9 := icc_eq (m := (Int32.toInt (g0 9 6))) (n := (Int32.toInt p1)) rfl rfl c9
      exact J38 g0 L0 hI k0_0
    ·
      have c9 := icc_neq (m := (Int32.toInt (g0 9 6))) (n := (Int32.toInt p1)) rfl rfl c9
      refine Ex.sti (hI.updN rfl) (fun g10 g10e hI => ?_)
      have k0_0 : g10 0 13 = g0 0 13 := by rw [g10e]; exact k0_0
      exact J38 g10 L0 hI k0_0
set_option maxHeartbeats 4000000 in
set_option maxRecDepth 100000 in
theorem sX10_findBeginners_9 (fu : Nat) (hfu : 1180591620717411303424 ≤ fu) (g0 : Nat → Nat → Int32) (L0 : Nat → Nat → Int64) (hI : zI XT g0) : Ex (fX10_findBeginners_9 fu g0 L0) (fun (r : Unit) (g1 : Nat → Nat → Int32) (L1 : Nat → Nat → Int64) => zI XT g1 ∧ g1 0 13 = g0 0 13) := by
  have k0_0 : g0 0 13 = g0 0 13 := rfl
  unfold fX10_findBeginners_9
  refine Ex.sti (hI.updN rfl) (fun g1 g1e hI => ?_)
  have k0_0 : g1 0 13 = g0 0 13 := by rw [g1e]; exact k0_0
  refine Ex.sti (hI.updN rfl) (fun g2 g2e hI => ?_)
  have k0_0 : g2 0 13 = g0 0 13 := by rw [g2e]; exact k0_0
  refine Ex.sti (hI.updN rfl) (fun g3 g3e hI => ?_)
  have k0_0 : g3 0 13 = g0 0 13 := by rw [g3e]; exact k0_0
  have lp17 : ∀ (v1 : Int32) (g : Nat → Nat → Int32) (L : Nat → Nat → Int64), (0 ≤ (Int32.toInt v1) ∧ (Int32.toInt v1) ≤ 12) → zI XT g → g 0 13 = g0 0 13 → Ex (fX10_findBeginners_9_l17 fu v1 g L) (fun (r : Unit) (g1 : Nat → Nat → Int32) (L1 : Nat → Nat → Int64) => zI XT g1 ∧ g1 0 13 = g0 0 13) := by
    intro v1 g L hb_v1 hI k0_0
    unfold fX10_findBeginners_9_l17
    refine Ex.loop (fun v => ((0 ≤ (Int32.toInt (v.1)) ∧ (Int32.toInt (v.1)) ≤ 12)) ∧ (zI XT (v.2.1)) ∧ ((v.2.1) 0 13 = g0 0 13)) (fun v => 13 - (Int32.toInt (v.1))) (by omega) (by show 13 - (Int32.toInt v1) < (fu : Int); omega) ⟨hb_v1, hI, k0_0⟩ (fun k17 v hv ih17 => ?_)
    obtain ⟨v1, g, L⟩ := v
    obtain ⟨hb_v1, hI, k0_0⟩ := hv
    have hb_v1 : (0 ≤ (Int32.toInt v1) ∧ (Int32.toInt v1) ≤ 12) := hb_v1
    have hI : zI XT g := hI
    have k0_0 : g 0 13 = g0 0 13 := k0_0
    have ih17 : ∀ v' : Int32 × (Nat → Nat → Int32) × (Nat → Nat → Int64), (((0 ≤ (Int32.toInt (v'.1)) ∧ (Int32.toInt (v'.1)) ≤ 12)) ∧ (zI XT (v'.2.1)) ∧ ((v'.2.1) 0 13 = g0 0 13)) → 13 - (Int32.toInt (v'.1)) < 13 - (Int32.toInt v1) → 0 < 13 - (Int32.toInt v1) → Ex (k17 v') (fun (r : Unit) (g1 : Nat → Nat → Int32) (L1 : Nat → Nat → Int64) => zI XT g1 ∧ g1 0 13 = g0 0 13) := ih17
    show Ex (fX10_findBeginners_9_s17 fu k17 v1 g L) (fun (r : Unit) (g1 : Nat → Nat → Int32) (L1 : Nat → Nat → Int64) => zI XT g1 ∧ g1 0 13 = g0 0 13)
    unfold fX10_findBeginners_9_s17
    refine Ex.cb (sX10_lessonCount_9 fu hfu g L hI) (fun x4 g5 L6 hq8 => ?_)
    obtain ⟨hI, kk0, rb_⟩ := hq8
    have b9 : 0 ≤ (Int32.toInt x4) ∧ (Int32.toInt x4) ≤ 12 := rb_
    have hI : zI XT g5 := hI
    have k0_0 : g5 0 13 = g0 0 13 := kk0.trans k0_0
    refine Ex.ite (fun c10 => ?_) (fun c10 => ?_)
    ·
      have c10 := icc_le (m := (Int32.toInt x4)) (n := (Int32.toInt v1)) rfl rfl c10
      exact Ex.ret ⟨hI, k0_0⟩
    ·
      have c10 := icc_nle (m := (Int32.toInt x4)) (n := (Int32.toInt v1)) rfl rfl c10
      refine Ex.cb (sX1_runFrom_8 fu hfu 0 g5 L6 hI (by decide)) (fun x11 g12 L13 hq15 => ?_)
      obtain ⟨hI, kk0⟩ := hq15
      have hI : zI XT g12 := hI
      have k0_0 : g12 0 13 = g0 0 13 := kk0.trans k0_0
      refine Ex.ck (by omega) (by omega) ?_
      refine Ex.lti (fun x16 x16e x16i => ?_)
      have lp45 : ∀ (v2 : Int32) (v3 : Int32) (g : Nat → Nat → Int32) (L : Nat → Nat → Int64), (0 ≤ (Int32.toInt v1) ∧ (Int32.toInt v1) ≤ 11) → (0 ≤ (Int32.toInt v3) ∧ (Int32.toInt v3) ≤ 31) → zI XT g → g 0 13 = g0 0 13 → Ex (fX10_findBeginners_9_l45 fu k17 v1 v2 v3 g L) (fun (r : Unit) (g1 : Nat → Nat → Int32) (L1 : Nat → Nat → Int64) => zI XT g1 ∧ g1 0 13 = g0 0 13) := by
        intro v2 v3 g L hb_v1 hb_v3 hI k0_0
        unfold fX10_findBeginners_9_l45
        refine Ex.loop (fun v => ((0 ≤ (Int32.toInt v1) ∧ (Int32.toInt v1) ≤ 11)) ∧ ((0 ≤ (Int32.toInt (v.1)) ∧ (Int32.toInt (v.1)) ≤ 31)) ∧ (zI XT (v.2.1)) ∧ ((v.2.1) 0 13 = g0 0 13)) (fun v => 32 - (Int32.toInt (v.1))) (by omega) (by show 32 - (Int32.toInt v3) < (fu : Int); omega) ⟨hb_v1, hb_v3, hI, k0_0⟩ (fun k45 v hv ih45 => ?_)
        obtain ⟨v3, g, L⟩ := v
        obtain ⟨hb_v1, hb_v3, hI, k0_0⟩ := hv
        have hb_v1 : (0 ≤ (Int32.toInt v1) ∧ (Int32.toInt v1) ≤ 11) := hb_v1
        have hb_v3 : (0 ≤ (Int32.toInt v3) ∧ (Int32.toInt v3) ≤ 31) := hb_v3
        have hI : zI XT g := hI
        have k0_0 : g 0 13 = g0 0 13 := k0_0
        have ih45 : ∀ v' : Int32 × (Nat → Nat → Int32) × (Nat → Nat → Int64), (((0 ≤ (Int32.toInt v1) ∧ (Int32.toInt v1) ≤ 11)) ∧ ((0 ≤ (Int32.toInt (v'.1)) ∧ (Int32.toInt (v'.1)) ≤ 31)) ∧ (zI XT (v'.2.1)) ∧ ((v'.2.1) 0 13 = g0 0 13)) → 32 - (Int32.toInt (v'.1)) < 32 - (Int32.toInt v3) → 0 < 32 - (Int32.toInt v3) → Ex (k45 v') (fun (r : Unit) (g1 : Nat → Nat → Int32) (L1 : Nat → Nat → Int64) => zI XT g1 ∧ g1 0 13 = g0 0 13) := ih45
        show Ex (fX10_findBeginners_9_s45 fu k17 v1 v2 k45 v3 g L) (fun (r : Unit) (g1 : Nat → Nat → Int32) (L1 : Nat → Nat → Int64) => zI XT g1 ∧ g1 0 13 = g0 0 13)
        unfold fX10_findBeginners_9_s45
        refine Ex.ite (fun c17 => ?_) (fun c17 => ?_)
        ·
          have c17 := icc_lt (m := 30) (n := (Int32.toInt v3)) (by decide) rfl c17
          refine Ex.ck (by omega) (by omega) ?_
          refine Ex.sti (hI.updN rfl) (fun g18 g18e hI => ?_)
          have k0_0 : g18 0 13 = g0 0 13 := by rw [g18e]; exact k0_0
          generalize z19q : (v1 + 1) = z19
          have e20 : (Int32.toInt z19) = (Int32.toInt v1) + 1 := by rw [← z19q]; exact ic_addc rfl (by decide) (by omega) (by omega)
          exact ih17 (z19, g18, L) ⟨(show (0 ≤ (Int32.toInt z19) ∧ (Int32.toInt z19) ≤ 12) from by omega), hI, k0_0⟩ (by show 13 - (Int32.toInt z19) < _; omega) (by omega)
        ·
          have c17 := icc_nlt (m := 30) (n := (Int32.toInt v3)) (by decide) rfl c17
          refine Ex.ck (by omega) (by omega) ?_
          refine Ex.sti (hI.updN rfl) (fun g21 g21e hI => ?_)
          have k0_0 : g21 0 13 = g0 0 13 := by rw [g21e]; exact k0_0
          refine Ex.cb (sX1_runFrom_8 fu hfu v1 g21 L hI (by omega)) (fun x22 g23 L24 hq26 => ?_)
          obtain ⟨hI, kk0⟩ := hq26
          have hI : zI XT g23 := hI
          have k0_0 : g23 0 13 = g0 0 13 := kk0.trans k0_0
          refine Ex.cb (sX10_isAsSeen_9 fu hfu g23 L24 hI) (fun x27 g28 L29 hq31 => ?_)
          obtain ⟨hI, kk0, rb_⟩ := hq31
          have b32 : 0 ≤ (Int32.toInt x27) ∧ (Int32.toInt x27) ≤ 1 := rb_
          have hI : zI XT g28 := hI
          have k0_0 : g28 0 13 = g0 0 13 := kk0.trans k0_0
          have J82 : ∀ (g : Nat → Nat → Int32) (L : Nat → Nat → Int64), (0 ≤ (Int32.toInt v1) ∧ (Int32.toInt v1) ≤ 11) → (0 ≤ (Int32.toInt v3) ∧ (Int32.toInt v3) ≤ 30) → zI XT g → g 0 13 = g0 0 13 → Ex (fX10_findBeginners_9_p82 fu k17 k45 v1 v2 v3 g L) (fun (r : Unit) (g1 : Nat → Nat → Int32) (L1 : Nat → Nat → Int64) => zI XT g1 ∧ g1 0 13 = g0 0 13) := by
            intro g L hb_v1 hb_v3 hI k0_0
            unfold fX10_findBeginners_9_p82
            generalize z33q : (v3 + 1) = z33
            have e34 : (Int32.toInt z33) = (Int32.toInt v3) + 1 := by rw [← z33q]; exact ic_addc rfl (by decide) (by omega) (by omega)
            exact ih45 (z33, g, L) ⟨(show (0 ≤ (Int32.toInt v1) ∧ (Int32.toInt v1) ≤ 11) from by omega), (show (0 ≤ (Int32.toInt z33) ∧ (Int32.toInt z33) ≤ 31) from by omega), hI, k0_0⟩ (by show 32 - (Int32.toInt z33) < _; omega) (by omega)
          refine Ex.ite (fun c35 => ?_) (fun c35 => ?_)
          ·
            have c35 := icc_eq (m := (Int32.toInt x27)) (n := 0) rfl (by decide) c35
            exact J82 g28 L29 (by omega) (by omega) hI k0_0
          ·
            have c35 := icc_neq (m := (Int32.toInt x27)) (n := 0) rfl (by decide) c35
            refine Ex.cb (sX10_addBeginner_9 fu hfu v1 v3 g28 L29 hI (by omega)) (fun x36 g37 L38 hq40 => ?_)
            obtain ⟨hI, kk0⟩ := hq40
            have hI : zI XT g37 := hI
            have k0_0 : g37 0 13 = g0 0 13 := kk0.trans k0_0
            exact J82 g37 L38 (by omega) (by omega) hI k0_0
      exact lp45 x16 0 g12 L13 (by omega) (by decide) hI k0_0
  exact lp17 0 g3 L0 (by decide) hI k0_0
set_option maxHeartbeats 4000000 in
set_option maxRecDepth 100000 in
theorem sX10_leastByShift_9 (fu : Nat) (hfu : 1180591620717411303424 ≤ fu) (p1 : Int32) (p2 : Int32) (g0 : Nat → Nat → Int32) (L0 : Nat → Nat → Int64) (hI : zI XT g0) (hp1 : (0 ≤ (Int32.toInt p1) ∧ (Int32.toInt p1) ≤ 11)) : Ex (fX10_leastByShift_9 fu p1 p2 g0 L0) (fun (r : Int32) (g1 : Nat → Nat → Int32) (L1 : Nat → Nat → Int64) => zI XT g1 ∧ g1 0 13 = g0 0 13) := by
  have k0_0 : g0 0 13 = g0 0 13 := rfl
  unfold fX10_leastByShift_9
  refine Ex.ck (by omega) (by omega) ?_
  refine Ex.ltn (fun q1 q1e => ?_)
  have q1b : 57 ≤ q1 ∧ q1 < 69 := by have := Nat.mod_lt (Int32.toNatClampNeg p1) (show 12 > 0 by decide); omega
  refine Ex.lti (fun x2 x2e x2i => ?_)
  refine Ex.lti (fun x3 x3e x3i => ?_)
  refine Ex.cb (sX1_runFrom_8 fu hfu 0 g0 L0 hI (by decide)) (fun x4 g5 L6 hq8 => ?_)
  obtain ⟨hI, kk0⟩ := hq8
  have hI : zI XT g5 := hI
  have k0_0 : g5 0 13 = g0 0 13 := kk0.trans k0_0
  refine Ex.cb (sX4_clear_13 fu hfu g5 L6 hI) (fun x9 g10 L11 hq13 => ?_)
  obtain ⟨hI, kk0⟩ := hq13
  have hI : zI XT g10 := hI
  have k0_0 : g10 0 13 = g0 0 13 := kk0.trans k0_0
  have lp44 : ∀ (v1 : Int32) (v2 : Int32) (q3_ : Nat) (v4 : Int32) (v5 : Int32) (v6 : Int32) (g : Nat → Nat → Int32) (L : Nat → Nat → Int64), (0 ≤ (Int32.toInt v1) ∧ (Int32.toInt v1) ≤ 11) → 57 ≤ q3_ → q3_ < 81 → ((-20) ≤ (Int32.toInt v6) ∧ (Int32.toInt v6) ≤ 21) → zI XT g → g 0 13 = g0 0 13 → Ex (fX10_leastByShift_9_l44 fu v1 v2 q3_ v4 v5 v6 g L) (fun (r : Int32) (g1 : Nat → Nat → Int32) (L1 : Nat → Nat → Int64) => zI XT g1 ∧ g1 0 13 = g0 0 13) := by
    intro v1 v2 q3_ v4 v5 v6 g L hb_v1 q3_l q3_h hb_v6 hI k0_0
    unfold fX10_leastByShift_9_l44
    refine Ex.loop (fun v => ((0 ≤ (Int32.toInt v1) ∧ (Int32.toInt v1) ≤ 11)) ∧ (57 ≤ q3_) ∧ (q3_ < 81) ∧ (((-20) ≤ (Int32.toInt (v.1)) ∧ (Int32.toInt (v.1)) ≤ 21)) ∧ (zI XT (v.2.1)) ∧ ((v.2.1) 0 13 = g0 0 13)) (fun v => 22 - (Int32.toInt (v.1))) (by omega) (by show 22 - (Int32.toInt v6) < (fu : Int); omega) ⟨hb_v1, q3_l, q3_h, hb_v6, hI, k0_0⟩ (fun k44 v hv ih44 => ?_)
    obtain ⟨v6, g, L⟩ := v
    obtain ⟨hb_v1, q3_l, q3_h, hb_v6, hI, k0_0⟩ := hv
    have hb_v1 : (0 ≤ (Int32.toInt v1) ∧ (Int32.toInt v1) ≤ 11) := hb_v1
    have q3_l : 57 ≤ q3_ := q3_l
    have q3_h : q3_ < 81 := q3_h
    have hb_v6 : ((-20) ≤ (Int32.toInt v6) ∧ (Int32.toInt v6) ≤ 21) := hb_v6
    have hI : zI XT g := hI
    have k0_0 : g 0 13 = g0 0 13 := k0_0
    have ih44 : ∀ v' : Int32 × (Nat → Nat → Int32) × (Nat → Nat → Int64), (((0 ≤ (Int32.toInt v1) ∧ (Int32.toInt v1) ≤ 11)) ∧ (57 ≤ q3_) ∧ (q3_ < 81) ∧ (((-20) ≤ (Int32.toInt (v'.1)) ∧ (Int32.toInt (v'.1)) ≤ 21)) ∧ (zI XT (v'.2.1)) ∧ ((v'.2.1) 0 13 = g0 0 13)) → 22 - (Int32.toInt (v'.1)) < 22 - (Int32.toInt v6) → 0 < 22 - (Int32.toInt v6) → Ex (k44 v') (fun (r : Int32) (g1 : Nat → Nat → Int32) (L1 : Nat → Nat → Int64) => zI XT g1 ∧ g1 0 13 = g0 0 13) := ih44
    show Ex (fX10_leastByShift_9_s44 fu v1 v2 q3_ v4 v5 k44 v6 g L) (fun (r : Int32) (g1 : Nat → Nat → Int32) (L1 : Nat → Nat → Int64) => zI XT g1 ∧ g1 0 13 = g0 0 13)
    unfold fX10_leastByShift_9_s44
    refine Ex.ite (fun c14 => ?_) (fun c14 => ?_)
    ·
      have c14 := icc_lt (m := 20) (n := (Int32.toInt v6)) (by decide) rfl c14
      refine Ex.sti (hI.updN (xt_lesN (by omega) (by omega) (by decide))) (fun g15 g15e hI => ?_)
      have k0_0 : g15 0 13 = g0 0 13 := by rw [g15e]; exact (upd2_nk (by omega)).trans k0_0
      refine Ex.sti (hI.updN (xt_lesN (by omega) (by omega) (by decide))) (fun g16 g16e hI => ?_)
      have k0_0 : g16 0 13 = g0 0 13 := by rw [g16e]; exact (upd2_nk (by omega)).trans k0_0
      refine Ex.cb (sX4_told_13 fu hfu v2 g16 L hI) (fun x17 g18 L19 hq21 => ?_)
      obtain ⟨hI, kk0⟩ := hq21
      have hI : zI XT g18 := hI
      have k0_0 : g18 0 13 = g0 0 13 := kk0.trans k0_0
      exact Ex.ret ⟨hI, k0_0⟩
    ·
      have c14 := icc_nlt (m := 20) (n := (Int32.toInt v6)) (by decide) rfl c14
      generalize z22q : (v4 + v6) = z22
      have J105 : ∀ (g : Nat → Nat → Int32) (L : Nat → Nat → Int64), (0 ≤ (Int32.toInt v1) ∧ (Int32.toInt v1) ≤ 11) → 57 ≤ q3_ → q3_ < 81 → ((-20) ≤ (Int32.toInt v6) ∧ (Int32.toInt v6) ≤ 20) → zI XT g → g 0 13 = g0 0 13 → Ex (fX10_leastByShift_9_p105 fu k44 v1 v2 q3_ v4 v5 v6 g L) (fun (r : Int32) (g1 : Nat → Nat → Int32) (L1 : Nat → Nat → Int64) => zI XT g1 ∧ g1 0 13 = g0 0 13) := by
        intro g L hb_v1 q3_l q3_h hb_v6 hI k0_0
        unfold fX10_leastByShift_9_p105
        generalize z23q : (v6 + 1) = z23
        have e24 : (Int32.toInt z23) = (Int32.toInt v6) + 1 := by rw [← z23q]; exact ic_addc rfl (by decide) (by omega) (by omega)
        exact ih44 (z23, g, L) ⟨(show (0 ≤ (Int32.toInt v1) ∧ (Int32.toInt v1) ≤ 11) from by omega), (show 57 ≤ q3_ from by omega), (show q3_ < 81 from by omega), (show ((-20) ≤ (Int32.toInt z23) ∧ (Int32.toInt z23) ≤ 21) from by omega), hI, k0_0⟩ (by show 22 - (Int32.toInt z23) < _; omega) (by omega)
      refine Ex.ite (fun c25 => ?_) (fun c25 => ?_)
      ·
        have c25 := icc_lt (m := (Int32.toInt z22)) (n := 0) rfl (by decide) c25
        exact J105 g L (by omega) (by omega) (by omega) (by omega) hI k0_0
      ·
        have c25 := icc_nlt (m := (Int32.toInt z22)) (n := 0) rfl (by decide) c25
        generalize z26q : (v5 + v6) = z26
        refine Ex.ite (fun c27 => ?_) (fun c27 => ?_)
        ·
          have c27 := icc_lt (m := 999) (n := (Int32.toInt z26)) (by decide) rfl c27
          exact J105 g L (by omega) (by omega) (by omega) (by omega) hI k0_0
        ·
          have c27 := icc_nlt (m := 999) (n := (Int32.toInt z26)) (by decide) rfl c27
          refine Ex.sti (hI.updN (xt_lesN (by omega) (by omega) (by decide))) (fun g28 g28e hI => ?_)
          have k0_0 : g28 0 13 = g0 0 13 := by rw [g28e]; exact (upd2_nk (by omega)).trans k0_0
          refine Ex.sti (hI.updN (xt_lesN (by omega) (by omega) (by decide))) (fun g29 g29e hI => ?_)
          have k0_0 : g29 0 13 = g0 0 13 := by rw [g29e]; exact (upd2_nk (by omega)).trans k0_0
          refine Ex.cb (sX1_lostFrom_8 fu hfu v1 g29 L hI (by omega)) (fun x30 g31 L32 hq34 => ?_)
          obtain ⟨hI, kk0⟩ := hq34
          have hI : zI XT g31 := hI
          have k0_0 : g31 0 13 = g0 0 13 := kk0.trans k0_0
          refine Ex.cb (sX4_offer_13 fu hfu v6 x30 g31 L32 hI) (fun x35 g36 L37 hq39 => ?_)
          obtain ⟨hI, kk0⟩ := hq39
          have hI : zI XT g36 := hI
          have k0_0 : g36 0 13 = g0 0 13 := kk0.trans k0_0
          exact J105 g36 L37 (by omega) (by omega) (by omega) (by omega) hI k0_0
  exact lp44 p1 p2 q1 x2 x3 (-20) g10 L11 (by omega) (by omega) (by omega) (by decide) hI k0_0
set_option maxHeartbeats 4000000 in
set_option maxRecDepth 100000 in
theorem sX10_harmDone_9 (fu : Nat) (hfu : 1180591620717411303424 ≤ fu) (p1 : Int32) (p2 : Int32) (g0 : Nat → Nat → Int32) (L0 : Nat → Nat → Int64) (hI : zI XT g0) (hp1 : (0 ≤ (Int32.toInt p1) ∧ (Int32.toInt p1) ≤ 11)) (hp2 : (0 ≤ (Int32.toInt p2) ∧ (Int32.toInt p2) ≤ 11)) : Ex (fX10_harmDone_9 fu p1 p2 g0 L0) (fun (r : Int32) (g1 : Nat → Nat → Int32) (L1 : Nat → Nat → Int64) => zI XT g1 ∧ g1 0 13 = g0 0 13) := by
  have k0_0 : g0 0 13 = g0 0 13 := rfl
  unfold fX10_harmDone_9
  refine Ex.cb (sX1_runFrom_8 fu hfu 0 g0 L0 hI (by decide)) (fun x1 g2 L3 hq5 => ?_)
  obtain ⟨hI, kk0⟩ := hq5
  have hI : zI XT g2 := hI
  have k0_0 : g2 0 13 = g0 0 13 := kk0.trans k0_0
  refine Ex.cb (sX1_late_8 fu hfu p2 g2 L3 hI (by omega)) (fun x6 g7 L8 hq10 => ?_)
  obtain ⟨hI, kk0⟩ := hq10
  have hI : zI XT g7 := hI
  have k0_0 : g7 0 13 = g0 0 13 := kk0.trans k0_0
  refine Ex.ck (by omega) (by omega) ?_
  refine Ex.lti (fun x11 x11e x11i => ?_)
  refine Ex.ck (by omega) (by omega) ?_
  refine Ex.sti (hI.updN rfl) (fun g12 g12e hI => ?_)
  have k0_0 : g12 0 13 = g0 0 13 := by rw [g12e]; exact k0_0
  refine Ex.cb (sX1_runFrom_8 fu hfu p1 g12 L8 hI (by omega)) (fun x13 g14 L15 hq17 => ?_)
  obtain ⟨hI, kk0⟩ := hq17
  have hI : zI XT g14 := hI
  have k0_0 : g14 0 13 = g0 0 13 := kk0.trans k0_0
  refine Ex.ck (by omega) (by omega) ?_
  refine Ex.sti (hI.updN rfl) (fun g18 g18e hI => ?_)
  have k0_0 : g18 0 13 = g0 0 13 := by rw [g18e]; exact k0_0
  refine Ex.cb (sX1_late_8 fu hfu p2 g18 L15 hI (by omega)) (fun x19 g20 L21 hq23 => ?_)
  obtain ⟨hI, kk0⟩ := hq23
  have hI : zI XT g20 := hI
  have k0_0 : g20 0 13 = g0 0 13 := kk0.trans k0_0
  generalize z24q : (x6 - x19) = z24
  exact Ex.ret ⟨hI, k0_0⟩
set_option maxHeartbeats 4000000 in
set_option maxRecDepth 100000 in
theorem sX10_addGapFrom_9 (fu : Nat) (hfu : 1180591620717411303424 ≤ fu) (p1 : Int32) (p2 : Int32) (g0 : Nat → Nat → Int32) (L0 : Nat → Nat → Int64) (hI : zI XT g0) : Ex (fX10_addGapFrom_9 fu p1 p2 g0 L0) (fun (r : Unit) (g1 : Nat → Nat → Int32) (L1 : Nat → Nat → Int64) => zI XT g1 ∧ g1 0 13 = g0 0 13) := by
  have k0_0 : g0 0 13 = g0 0 13 := rfl
  unfold fX10_addGapFrom_9
  have lp2 : ∀ (v1 : Int32) (v2 : Int32) (v3 : Int32) (g : Nat → Nat → Int32) (L : Nat → Nat → Int64), (0 ≤ (Int32.toInt v3) ∧ (Int32.toInt v3) ≤ 12) → zI XT g → g 0 13 = g0 0 13 → Ex (fX10_addGapFrom_9_l2 fu v1 v2 v3 g L) (fun (r : Unit) (g1 : Nat → Nat → Int32) (L1 : Nat → Nat → Int64) => zI XT g1 ∧ g1 0 13 = g0 0 13) := by
    intro v1 v2 v3 g L hb_v3 hI k0_0
    unfold fX10_addGapFrom_9_l2
    refine Ex.loop (fun v => ((0 ≤ (Int32.toInt (v.1)) ∧ (Int32.toInt (v.1)) ≤ 12)) ∧ (zI XT (v.2.1)) ∧ ((v.2.1) 0 13 = g0 0 13)) (fun v => 13 - (Int32.toInt (v.1))) (by omega) (by show 13 - (Int32.toInt v3) < (fu : Int); omega) ⟨hb_v3, hI, k0_0⟩ (fun k2 v hv ih2 => ?_)
    obtain ⟨v3, g, L⟩ := v
    obtain ⟨hb_v3, hI, k0_0⟩ := hv
    have hb_v3 : (0 ≤ (Int32.toInt v3) ∧ (Int32.toInt v3) ≤ 12) := hb_v3
    have hI : zI XT g := hI
    have k0_0 : g 0 13 = g0 0 13 := k0_0
    have ih2 : ∀ v' : Int32 × (Nat → Nat → Int32) × (Nat → Nat → Int64), (((0 ≤ (Int32.toInt (v'.1)) ∧ (Int32.toInt (v'.1)) ≤ 12)) ∧ (zI XT (v'.2.1)) ∧ ((v'.2.1) 0 13 = g0 0 13)) → 13 - (Int32.toInt (v'.1)) < 13 - (Int32.toInt v3) → 0 < 13 - (Int32.toInt v3) → Ex (k2 v') (fun (r : Unit) (g1 : Nat → Nat → Int32) (L1 : Nat → Nat → Int64) => zI XT g1 ∧ g1 0 13 = g0 0 13) := ih2
    show Ex (fX10_addGapFrom_9_s2 fu v1 v2 k2 v3 g L) (fun (r : Unit) (g1 : Nat → Nat → Int32) (L1 : Nat → Nat → Int64) => zI XT g1 ∧ g1 0 13 = g0 0 13)
    unfold fX10_addGapFrom_9_s2
    refine Ex.cb (sX10_lessonCount_9 fu hfu g L hI) (fun x1 g2 L3 hq5 => ?_)
    obtain ⟨hI, kk0, rb_⟩ := hq5
    have b6 : 0 ≤ (Int32.toInt x1) ∧ (Int32.toInt x1) ≤ 12 := rb_
    have hI : zI XT g2 := hI
    have k0_0 : g2 0 13 = g0 0 13 := kk0.trans k0_0
    refine Ex.ite (fun c7 => ?_) (fun c7 => ?_)
    ·
      have c7 := icc_le (m := (Int32.toInt x1)) (n := (Int32.toInt v3)) rfl rfl c7
      exact Ex.ret ⟨hI, k0_0⟩
    ·
      have c7 := icc_nle (m := (Int32.toInt x1)) (n := (Int32.toInt v3)) rfl rfl c7
      refine Ex.ck (by omega) (by omega) ?_
      refine Ex.ltn (fun q8 q8e => ?_)
      have q8b : 57 ≤ q8 ∧ q8 < 69 := by have := Nat.mod_lt (Int32.toNatClampNeg v3) (show 12 > 0 by decide); omega
      have J42 : ∀ (g : Nat → Nat → Int32) (L : Nat → Nat → Int64), (0 ≤ (Int32.toInt v3) ∧ (Int32.toInt v3) ≤ 11) → zI XT g → g 0 13 = g0 0 13 → Ex (fX10_addGapFrom_9_p42 fu k2 v1 v2 v3 g L) (fun (r : Unit) (g1 : Nat → Nat → Int32) (L1 : Nat → Nat → Int64) => zI XT g1 ∧ g1 0 13 = g0 0 13) := by
        intro g L hb_v3 hI k0_0
        unfold fX10_addGapFrom_9_p42
        generalize z9q : (v3 + 1) = z9
        have e10 : (Int32.toInt z9) = (Int32.toInt v3) + 1 := by rw [← z9q]; exact ic_addc rfl (by decide) (by omega) (by omega)
        exact ih2 (z9, g, L) ⟨(show (0 ≤ (Int32.toInt z9) ∧ (Int32.toInt z9) ≤ 12) from by omega), hI, k0_0⟩ (by show 13 - (Int32.toInt z9) < _; omega) (by omega)
      refine Ex.ite (fun c11 => ?_) (fun c11 => ?_)
      ·
        have c11 := icc_lt (m := (Int32.toInt (g2 q8 3))) (n := (Int32.toInt v1)) rfl rfl c11
        exact J42 g2 L3 (by omega) hI k0_0
      ·
        have c11 := icc_nlt (m := (Int32.toInt (g2 q8 3))) (n := (Int32.toInt v1)) rfl rfl c11
        refine Ex.ck (by omega) (by omega) ?_
        generalize z12q : ((g2 26 (Int32.toNatClampNeg v3)) + v2) = z12
        refine Ex.ck (by omega) (by omega) ?_
        refine Ex.sti (hI.updN rfl) (fun g13 g13e hI => ?_)
        have k0_0 : g13 0 13 = g0 0 13 := by rw [g13e]; exact k0_0
        exact J42 g13 L3 (by omega) hI k0_0
  exact lp2 p1 p2 0 g0 L0 (by decide) hI k0_0
set_option maxHeartbeats 4000000 in
set_option maxRecDepth 100000 in
theorem sX10_leastByPause_9 (fu : Nat) (hfu : 1180591620717411303424 ≤ fu) (p1 : Int32) (p2 : Int32) (g0 : Nat → Nat → Int32) (L0 : Nat → Nat → Int64) (hI : zI XT g0) : Ex (fX10_leastByPause_9 fu p1 p2 g0 L0) (fun (r : Int32) (g1 : Nat → Nat → Int32) (L1 : Nat → Nat → Int64) => zI XT g1 ∧ g1 0 13 = g0 0 13) := by
  have k0_0 : g0 0 13 = g0 0 13 := rfl
  unfold fX10_leastByPause_9
  refine Ex.cb (sX4_clear_13 fu hfu g0 L0 hI) (fun x1 g2 L3 hq5 => ?_)
  obtain ⟨hI, kk0⟩ := hq5
  have hI : zI XT g2 := hI
  have k0_0 : g2 0 13 = g0 0 13 := kk0.trans k0_0
  have lp9 : ∀ (v1 : Int32) (v2 : Int32) (v3 : Int32) (g : Nat → Nat → Int32) (L : Nat → Nat → Int64), (0 ≤ (Int32.toInt v3) ∧ (Int32.toInt v3) ≤ 12) → zI XT g → g 0 13 = g0 0 13 → Ex (fX10_leastByPause_9_l9 fu v1 v2 v3 g L) (fun (r : Int32) (g1 : Nat → Nat → Int32) (L1 : Nat → Nat → Int64) => zI XT g1 ∧ g1 0 13 = g0 0 13) := by
    intro v1 v2 v3 g L hb_v3 hI k0_0
    unfold fX10_leastByPause_9_l9
    refine Ex.loop (fun v => ((0 ≤ (Int32.toInt (v.1)) ∧ (Int32.toInt (v.1)) ≤ 12)) ∧ (zI XT (v.2.1)) ∧ ((v.2.1) 0 13 = g0 0 13)) (fun v => 13 - (Int32.toInt (v.1))) (by omega) (by show 13 - (Int32.toInt v3) < (fu : Int); omega) ⟨hb_v3, hI, k0_0⟩ (fun k9 v hv ih9 => ?_)
    obtain ⟨v3, g, L⟩ := v
    obtain ⟨hb_v3, hI, k0_0⟩ := hv
    have hb_v3 : (0 ≤ (Int32.toInt v3) ∧ (Int32.toInt v3) ≤ 12) := hb_v3
    have hI : zI XT g := hI
    have k0_0 : g 0 13 = g0 0 13 := k0_0
    have ih9 : ∀ v' : Int32 × (Nat → Nat → Int32) × (Nat → Nat → Int64), (((0 ≤ (Int32.toInt (v'.1)) ∧ (Int32.toInt (v'.1)) ≤ 12)) ∧ (zI XT (v'.2.1)) ∧ ((v'.2.1) 0 13 = g0 0 13)) → 13 - (Int32.toInt (v'.1)) < 13 - (Int32.toInt v3) → 0 < 13 - (Int32.toInt v3) → Ex (k9 v') (fun (r : Int32) (g1 : Nat → Nat → Int32) (L1 : Nat → Nat → Int64) => zI XT g1 ∧ g1 0 13 = g0 0 13) := ih9
    show Ex (fX10_leastByPause_9_s9 fu v1 v2 k9 v3 g L) (fun (r : Int32) (g1 : Nat → Nat → Int32) (L1 : Nat → Nat → Int64) => zI XT g1 ∧ g1 0 13 = g0 0 13)
    unfold fX10_leastByPause_9_s9
    refine Ex.cb (sX10_lessonCount_9 fu hfu g L hI) (fun x6 g7 L8 hq10 => ?_)
    obtain ⟨hI, kk0, rb_⟩ := hq10
    have b11 : 0 ≤ (Int32.toInt x6) ∧ (Int32.toInt x6) ≤ 12 := rb_
    have hI : zI XT g7 := hI
    have k0_0 : g7 0 13 = g0 0 13 := kk0.trans k0_0
    refine Ex.ite (fun c12 => ?_) (fun c12 => ?_)
    ·
      have c12 := icc_le (m := (Int32.toInt x6)) (n := (Int32.toInt v3)) rfl rfl c12
      refine Ex.cb (sX4_told_13 fu hfu v2 g7 L8 hI) (fun x13 g14 L15 hq17 => ?_)
      obtain ⟨hI, kk0⟩ := hq17
      have hI : zI XT g14 := hI
      have k0_0 : g14 0 13 = g0 0 13 := kk0.trans k0_0
      exact Ex.ret ⟨hI, k0_0⟩
    ·
      have c12 := icc_nle (m := (Int32.toInt x6)) (n := (Int32.toInt v3)) rfl rfl c12
      refine Ex.ck (by omega) (by omega) ?_
      refine Ex.ltn (fun q18 q18e => ?_)
      have q18b : 57 ≤ q18 ∧ q18 < 69 := by have := Nat.mod_lt (Int32.toNatClampNeg v3) (show 12 > 0 by decide); omega
      refine Ex.lti (fun x19 x19e x19i => ?_)
      refine Ex.cb (sX10_addGapFrom_9 fu hfu x19 v1 g7 L8 hI) (fun x20 g21 L22 hq24 => ?_)
      obtain ⟨hI, kk0⟩ := hq24
      have hI : zI XT g21 := hI
      have k0_0 : g21 0 13 = g0 0 13 := kk0.trans k0_0
      refine Ex.cb (sX1_lostFrom_8 fu hfu 0 g21 L22 hI (by decide)) (fun x25 g26 L27 hq29 => ?_)
      obtain ⟨hI, kk0⟩ := hq29
      have hI : zI XT g26 := hI
      have k0_0 : g26 0 13 = g0 0 13 := kk0.trans k0_0
      refine Ex.cb (sX4_offer_13 fu hfu x19 x25 g26 L27 hI) (fun x30 g31 L32 hq34 => ?_)
      obtain ⟨hI, kk0⟩ := hq34
      have hI : zI XT g31 := hI
      have k0_0 : g31 0 13 = g0 0 13 := kk0.trans k0_0
      generalize z35q : (-v1) = z35
      refine Ex.cb (sX10_addGapFrom_9 fu hfu x19 z35 g31 L32 hI) (fun x36 g37 L38 hq40 => ?_)
      obtain ⟨hI, kk0⟩ := hq40
      have hI : zI XT g37 := hI
      have k0_0 : g37 0 13 = g0 0 13 := kk0.trans k0_0
      generalize z41q : (v3 + 1) = z41
      have e42 : (Int32.toInt z41) = (Int32.toInt v3) + 1 := by rw [← z41q]; exact ic_addc rfl (by decide) (by omega) (by omega)
      exact ih9 (z41, g37, L38) ⟨(show (0 ≤ (Int32.toInt z41) ∧ (Int32.toInt z41) ≤ 12) from by omega), hI, k0_0⟩ (by show 13 - (Int32.toInt z41) < _; omega) (by omega)
  exact lp9 p1 p2 0 g2 L3 (by decide) hI k0_0
