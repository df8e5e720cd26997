set_option maxHeartbeats 4000000 in
set_option maxRecDepth 100000 in
theorem sX1_isUpstairs_8 (fu : Nat) (hfu : 1099511627776 ≤ fu) (p1 : Int32) (g0 : Nat → Nat → Int32) (L0 : Nat → Nat → Int64) (hI : zI XT g0) (hp1 : (0 ≤ (Int32.toInt p1) ∧ (Int32.toInt p1) ≤ 11)) : Ex (fX1_isUpstairs_8 fu p1 g0 L0) (fun (r : Int32) (g1 : Nat → Nat → Int32) (L1 : Nat → Nat → Int64) => zI XT g1 ∧ g1 12 5 = g0 12 5 ∧ g1 0 13 = g0 0 13 ∧ (0 ≤ (Int32.toInt r) ∧ (Int32.toInt r) ≤ 1)) := by
  have k0_0 : g0 12 5 = g0 12 5 := rfl
  have k0_1 : g0 0 13 = g0 0 13 := rfl
  unfold fX1_isUpstairs_8
  refine Ex.ck (by omega) (by omega) ?_
  have J18 : ∀ (t0 : Int32) (g : Nat → Nat → Int32) (L : Nat → Nat → Int64), (0 ≤ (Int32.toInt t0) ∧ (Int32.toInt t0) ≤ 1) → zI XT g → g 12 5 = g0 12 5 → g 0 13 = g0 0 13 → Ex (fX1_isUpstairs_8_p18 fu t0 g L) (fun (r : Int32) (g1 : Nat → Nat → Int32) (L1 : Nat → Nat → Int64) => zI XT g1 ∧ g1 12 5 = g0 12 5 ∧ g1 0 13 = g0 0 13 ∧ (0 ≤ (Int32.toInt r) ∧ (Int32.toInt r) ≤ 1)) := by
    intro t0 g L hb_t0 hI k0_0 k0_1
    unfold fX1_isUpstairs_8_p18
    refine Ex.ckb (z_bool (by omega)) ?_
    exact Ex.ret ⟨hI, k0_0, k0_1, (by omega)⟩
  refine Ex.ite (fun c1 => ?_) (fun c1 => ?_)
  ·
    have c1 := icc_lt (m := (Int32.toInt (g0 27 (Int32.toNatClampNeg p1)))) (n := 5) rfl (by decide) c1
    exact J18 0 g0 L0 (by decide) hI k0_0 k0_1
  ·
    have c1 := icc_nlt (m := (Int32.toInt (g0 27 (Int32.toNatClampNeg p1)))) (n := 5) rfl (by decide) c1
    exact J18 1 g0 L0 (by decide) hI k0_0 k0_1
set_option maxHeartbeats 4000000 in
set_option maxRecDepth 100000 in
theorem sX1_late_8 (fu : Nat) (hfu : 1099511627776 ≤ fu) (p1 : Int32) (g0 : Nat → Nat → Int32) (L0 : Nat → Nat → Int64) (hI : zI XT g0) (hp1 : (0 ≤ (Int32.toInt p1) ∧ (Int32.toInt p1) ≤ 11)) : Ex (fX1_late_8 fu p1 g0 L0) (fun (r : Int32) (g1 : Nat → Nat → Int32) (L1 : Nat → Nat → Int64) => zI XT g1 ∧ g1 0 13 = g0 0 13) := by
  have k0_0 : g0 0 13 = g0 0 13 := rfl
  unfold fX1_late_8
  refine Ex.ck (by omega) (by omega) ?_
  refine Ex.ck (by omega) (by omega) ?_
  refine Ex.ltn (fun q1 q1e => ?_)
  have q1b : 57 ≤ q1 ∧ q1 < 69 := by have := Nat.mod_lt (Int32.toNatClampNeg p1) (show 12 > 0 by decide); omega
  generalize z2q : ((g0 44 (Int32.toNatClampNeg p1)) - (g0 q1 4)) = z2
  exact Ex.ret ⟨hI, k0_0⟩
set_option maxHeartbeats 4000000 in
set_option maxRecDepth 100000 in
theorem sX1_lost_8 (fu : Nat) (hfu : 1099511627776 ≤ fu) (g0 : Nat → Nat → Int32) (L0 : Nat → Nat → Int64) (hI : zI XT g0) : Ex (fX1_lost_8 fu g0 L0) (fun (r : Int32) (g1 : Nat → Nat → Int32) (L1 : Nat → Nat → Int64) => zI XT g1 ∧ g1 0 13 = g0 0 13) := by
  have k0_0 : g0 0 13 = g0 0 13 := rfl
  unfold fX1_lost_8
  have lp4 : ∀ (v1 : Int32) (v2 : Int32) (g : Nat → Nat → Int32) (L : Nat → Nat → Int64), (0 ≤ (Int32.toInt v2) ∧ (Int32.toInt v2) ≤ 12) → zI XT g → g 0 13 = g0 0 13 → Ex (fX1_lost_8_l4 fu v1 v2 g L) (fun (r : Int32) (g1 : Nat → Nat → Int32) (L1 : Nat → Nat → Int64) => zI XT g1 ∧ g1 0 13 = g0 0 13) := by
    intro v1 v2 g L hb_v2 hI k0_0
    unfold fX1_lost_8_l4
    refine Ex.loop (fun v => ((0 ≤ (Int32.toInt (v.2.1)) ∧ (Int32.toInt (v.2.1)) ≤ 12)) ∧ (zI XT (v.2.2.1)) ∧ ((v.2.2.1) 0 13 = g0 0 13)) (fun v => 13 - (Int32.toInt (v.2.1))) (by omega) (by show 13 - (Int32.toInt v2) < (fu : Int); omega) ⟨hb_v2, hI, k0_0⟩ (fun k4 v hv ih4 => ?_)
    obtain ⟨v1, v2, g, L⟩ := v
    obtain ⟨hb_v2, hI, k0_0⟩ := hv
    have hb_v2 : (0 ≤ (Int32.toInt v2) ∧ (Int32.toInt v2) ≤ 12) := hb_v2
    have hI : zI XT g := hI
    have k0_0 : g 0 13 = g0 0 13 := k0_0
    have ih4 : ∀ v' : Int32 × Int32 × (Nat → Nat → Int32) × (Nat → Nat → Int64), (((0 ≤ (Int32.toInt (v'.2.1)) ∧ (Int32.toInt (v'.2.1)) ≤ 12)) ∧ (zI XT (v'.2.2.1)) ∧ ((v'.2.2.1) 0 13 = g0 0 13)) → 13 - (Int32.toInt (v'.2.1)) < 13 - (Int32.toInt v2) → 0 < 13 - (Int32.toInt v2) → Ex (k4 v') (fun (r : Int32) (g1 : Nat → Nat → Int32) (L1 : Nat → Nat → Int64) => zI XT g1 ∧ g1 0 13 = g0 0 13) := ih4
    show Ex (fX1_lost_8_s4 fu k4 v1 v2 g L) (fun (r : Int32) (g1 : Nat → Nat → Int32) (L1 : Nat → Nat → Int64) => zI XT g1 ∧ g1 0 13 = g0 0 13)
    unfold fX1_lost_8_s4
    have b1 : 0 ≤ (Int32.toInt (g 1 2)) ∧ (Int32.toInt (g 1 2)) ≤ 12 := hI 1 2 0 12 rfl
    refine Ex.ite (fun c2 => ?_) (fun c2 => ?_)
    ·
      have c2 := icc_le (m := (Int32.toInt (g 1 2))) (n := (Int32.toInt v2)) rfl rfl c2
      exact Ex.ret ⟨hI, k0_0⟩
    ·
      have c2 := icc_nle (m := (Int32.toInt (g 1 2))) (n := (Int32.toInt v2)) rfl rfl c2
      refine Ex.ck (by omega) (by omega) ?_
      refine Ex.ltn (fun q3 q3e => ?_)
      have q3b : 57 ≤ q3 ∧ q3 < 69 := by have := Nat.mod_lt (Int32.toNatClampNeg v2) (show 12 > 0 by decide); omega
      refine Ex.cb (sX1_late_8 fu hfu v2 g L hI (by omega)) (fun x4 g5 L6 hq8 => ?_)
      obtain ⟨hI, kk0⟩ := hq8
      have hI : zI XT g5 := hI
      have k0_0 : g5 0 13 = g0 0 13 := kk0.trans k0_0
      generalize z9q : ((g q3 8) * x4) = z9
      generalize z10q : (v1 + z9) = z10
      refine Ex.lti (fun x11 x11e x11i => ?_)
      generalize z12q : (v2 + 1) = z12
      have e13 : (Int32.toInt z12) = (Int32.toInt v2) + 1 := by rw [← z12q]; exact ic_addc rfl (by decide) (by omega) (by omega)
      exact ih4 (x11, z12, g5, L6) ⟨(show (0 ≤ (Int32.toInt z12) ∧ (Int32.toInt z12) ≤ 12) from by omega), hI, k0_0⟩ (by show 13 - (Int32.toInt z12) < _; omega) (by omega)
  exact lp4 0 0 g0 L0 (by decide) hI k0_0
set_option maxHeartbeats 4000000 in
set_option maxRecDepth 100000 in
theorem sX1_way_8 (fu : Nat) (hfu : 1099511627776 ≤ fu) (p1 : Int32) (p2 : Int32) (g0 : Nat → Nat → Int32) (L0 : Nat → Nat → Int64) (hI : zI XT g0) (hp1 : (0 ≤ (Int32.toInt p1) ∧ (Int32.toInt p1) ≤ 11)) (hp2 : (0 ≤ (Int32.toInt p2) ∧ (Int32.toInt p2) ≤ 11)) : Ex (fX1_way_8 fu p1 p2 g0 L0) (fun (r : Int32) (g1 : Nat → Nat → Int32) (L1 : Nat → Nat → Int64) => zI XT g1 ∧ g1 12 5 = g0 12 5 ∧ g1 0 13 = g0 0 13) := by
  have k0_0 : g0 12 5 = g0 12 5 := rfl
  have k0_1 : g0 0 13 = g0 0 13 := rfl
  unfold fX1_way_8
  refine Ex.ck (by omega) (by omega) ?_
  refine Ex.ck (by omega) (by omega) ?_
  generalize z1q : ((g0 27 (Int32.toNatClampNeg p1)) - (g0 27 (Int32.toNatClampNeg p2))) = z1
  generalize z2q : (if 0 ≤ z1 then z1 else 0 - z1) = z2
  generalize z3q : ((g0 1 3) * z2) = z3
  refine Ex.lti (fun x4 x4e x4i => ?_)
  refine Ex.cb (sX1_isUpstairs_8 fu hfu p1 g0 L0 hI (by omega)) (fun x5 g6 L7 hq9 => ?_)
  obtain ⟨hI, kk0, kk1, rb_⟩ := hq9
  have b10 : 0 ≤ (Int32.toInt x5) ∧ (Int32.toInt x5) ≤ 1 := rb_
  have hI : zI XT g6 := hI
  have k0_0 : g6 12 5 = g0 12 5 := kk0.trans k0_0
  have k0_1 : g6 0 13 = g0 0 13 := kk1.trans k0_1
  refine Ex.cb (sX1_isUpstairs_8 fu hfu p2 g6 L7 hI (by omega)) (fun x11 g12 L13 hq15 => ?_)
  obtain ⟨hI, kk0, kk1, rb_⟩ := hq15
  have b16 : 0 ≤ (Int32.toInt x11) ∧ (Int32.toInt x11) ≤ 1 := rb_
  have hI : zI XT g12 := hI
  have k0_0 : g12 12 5 = g0 12 5 := kk0.trans k0_0
  have k0_1 : g12 0 13 = g0 0 13 := kk1.trans k0_1
  have J55 : ∀ (v3 : Int32) (g : Nat → Nat → Int32) (L : Nat → Nat → Int64), zI XT g → g 12 5 = g0 12 5 → g 0 13 = g0 0 13 → Ex (fX1_way_8_p55 fu v3 g L) (fun (r : Int32) (g1 : Nat → Nat → Int32) (L1 : Nat → Nat → Int64) => zI XT g1 ∧ g1 12 5 = g0 12 5 ∧ g1 0 13 = g0 0 13) := by
    intro v3 g L hI k0_0 k0_1
    unfold fX1_way_8_p55
    exact Ex.ret ⟨hI, k0_0, k0_1⟩
  refine Ex.ite (fun c17 => ?_) (fun c17 => ?_)
  ·
    have c17 := icc_eq (m := (Int32.toInt x5)) (n := (Int32.toInt x11)) rfl rfl c17
    exact J55 x4 g12 L13 hI k0_0 k0_1
  ·
    have c17 := icc_neq (m := (Int32.toInt x5)) (n := (Int32.toInt x11)) rfl rfl c17
    refine Ex.ite (fun c18 => ?_) (fun c18 => ?_)
    ·
      have c18 := icc_le (m := 1) (n := (Int32.toInt (g12 1 4))) (by decide) rfl c18
      refine Ex.ck (by omega) (by omega) ?_
      refine Ex.ltn (fun q19 q19e => ?_)
      have q19b : 57 ≤ q19 ∧ q19 < 69 := by have := Nat.mod_lt (Int32.toNatClampNeg p1) (show 12 > 0 by decide); omega
      generalize z20q : ((g12 q19 8) + (g12 1 4)) = z20
      generalize z21q : (z20 - 1) = z21
      refine Ex.cnz (fun h_ => absurd (icc_eq (n := 0) rfl (by decide) h_) (by omega)) ?_
      generalize z22q : (z21 / (g12 1 4)) = z22
      generalize z23q : (x4 + z22) = z23
      exact Ex.ret ⟨hI, k0_0, k0_1⟩
    ·
      have c18 := icc_nle (m := 1) (n := (Int32.toInt (g12 1 4))) (by decide) rfl c18
      exact J55 x4 g12 L13 hI k0_0 k0_1
set_option maxHeartbeats 4000000 in
set_option maxRecDepth 100000 in
theorem sX1_comingOf_8 (fu : Nat) (hfu : 1099511627776 ≤ fu) (p1 : Int32) (p2 : Int32) (p3 : Int32) (g0 : Nat → Nat → Int32) (L0 : Nat → Nat → Int64) (hI : zI XT g0) (hp2 : (0 ≤ (Int32.toInt p2) ∧ (Int32.toInt p2) ≤ 6)) : Ex (fX1_comingOf_8 fu p1 p2 p3 g0 L0) (fun (r : Int32) (g1 : Nat → Nat → Int32) (L1 : Nat → Nat → Int64) => zI XT g1 ∧ g1 0 13 = g0 0 13) := by
  have k0_0 : g0 0 13 = g0 0 13 := rfl
  unfold fX1_comingOf_8
  have lp6 : ∀ (v1 : Int32) (v2 : Int32) (v4 : Int32) (v5 : Int32) (g : Nat → Nat → Int32) (L : Nat → Nat → Int64), (0 ≤ (Int32.toInt v2) ∧ (Int32.toInt v2) ≤ 6) → (0 ≤ (Int32.toInt v5) ∧ (Int32.toInt v5) ≤ 6) → zI XT g → g 0 13 = g0 0 13 → Ex (fX1_comingOf_8_l6 fu v1 v2 v4 v5 g L) (fun (r : Int32) (g1 : Nat → Nat → Int32) (L1 : Nat → Nat → Int64) => zI XT g1 ∧ g1 0 13 = g0 0 13) := by
    intro v1 v2 v4 v5 g L hb_v2 hb_v5 hI k0_0
    unfold fX1_comingOf_8_l6
    refine Ex.loop (fun v => ((0 ≤ (Int32.toInt v2) ∧ (Int32.toInt v2) ≤ 6)) ∧ ((0 ≤ (Int32.toInt (v.2.1)) ∧ (Int32.toInt (v.2.1)) ≤ 6)) ∧ (zI XT (v.2.2.1)) ∧ ((v.2.2.1) 0 13 = g0 0 13)) (fun v => 7 - (Int32.toInt (v.2.1))) (by omega) (by show 7 - (Int32.toInt v5) < (fu : Int); omega) ⟨hb_v2, hb_v5, hI, k0_0⟩ (fun k6 v hv ih6 => ?_)
    obtain ⟨v4, v5, g, L⟩ := v
    obtain ⟨hb_v2, hb_v5, hI, k0_0⟩ := hv
    have hb_v2 : (0 ≤ (Int32.toInt v2) ∧ (Int32.toInt v2) ≤ 6) := hb_v2
    have hb_v5 : (0 ≤ (Int32.toInt v5) ∧ (Int32.toInt v5) ≤ 6) := hb_v5
    have hI : zI XT g := hI
    have k0_0 : g 0 13 = g0 0 13 := k0_0
    have ih6 : ∀ v' : Int32 × Int32 × (Nat → Nat → Int32) × (Nat → Nat → Int64), (((0 ≤ (Int32.toInt v2) ∧ (Int32.toInt v2) ≤ 6)) ∧ ((0 ≤ (Int32.toInt (v'.2.1)) ∧ (Int32.toInt (v'.2.1)) ≤ 6)) ∧ (zI XT (v'.2.2.1)) ∧ ((v'.2.2.1) 0 13 = g0 0 13)) → 7 - (Int32.toInt (v'.2.1)) < 7 - (Int32.toInt v5) → 0 < 7 - (Int32.toInt v5) → Ex (k6 v') (fun (r : Int32) (g1 : Nat → Nat → Int32) (L1 : Nat → Nat → Int64) => zI XT g1 ∧ g1 0 13 = g0 0 13) := ih6
    show Ex (fX1_comingOf_8_s6 fu v1 v2 k6 v4 v5 g L) (fun (r : Int32) (g1 : Nat → Nat → Int32) (L1 : Nat → Nat → Int64) => zI XT g1 ∧ g1 0 13 = g0 0 13)
    unfold fX1_comingOf_8_s6
    refine Ex.ite (fun c1 => ?_) (fun c1 => ?_)
    ·
      have c1 := icc_le (m := (Int32.toInt v2)) (n := (Int32.toInt v5)) rfl rfl c1
      exact Ex.ret ⟨hI, k0_0⟩
    ·
      have c1 := icc_nle (m := (Int32.toInt v2)) (n := (Int32.toInt v5)) rfl rfl c1
      have lp18 : ∀ (v6 : Int32) (v7 : Int32) (g : Nat → Nat → Int32) (L : Nat → Nat → Int64), (1 ≤ (Int32.toInt v2) ∧ (Int32.toInt v2) ≤ 6) → (0 ≤ (Int32.toInt v5) ∧ (Int32.toInt v5) ≤ 5) → (0 ≤ (Int32.toInt v7) ∧ (Int32.toInt v7) ≤ 6) → zI XT g → g 0 13 = g0 0 13 → Ex (fX1_comingOf_8_l18 fu k6 v1 v2 v4 v5 v6 v7 g L) (fun (r : Int32) (g1 : Nat → Nat → Int32) (L1 : Nat → Nat → Int64) => zI XT g1 ∧ g1 0 13 = g0 0 13) := by
        intro v6 v7 g L hb_v2 hb_v5 hb_v7 hI k0_0
        unfold fX1_comingOf_8_l18
        refine Ex.loop (fun v => ((1 ≤ (Int32.toInt v2) ∧ (Int32.toInt v2) ≤ 6)) ∧ ((0 ≤ (Int32.toInt v5) ∧ (Int32.toInt v5) ≤ 5)) ∧ ((0 ≤ (Int32.toInt (v.2.1)) ∧ (Int32.toInt (v.2.1)) ≤ 6)) ∧ (zI XT (v.2.2.1)) ∧ ((v.2.2.1) 0 13 = g0 0 13)) (fun v => 7 - (Int32.toInt (v.2.1))) (by omega) (by show 7 - (Int32.toInt v7) < (fu : Int); omega) ⟨hb_v2, hb_v5, hb_v7, hI, k0_0⟩ (fun k18 v hv ih18 => ?_)
        obtain ⟨v6, v7, g, L⟩ := v
        obtain ⟨hb_v2, hb_v5, hb_v7, hI, k0_0⟩ := hv
        have hb_v2 : (1 ≤ (Int32.toInt v2) ∧ (Int32.toInt v2) ≤ 6) := hb_v2
        have hb_v5 : (0 ≤ (Int32.toInt v5) ∧ (Int32.toInt v5) ≤ 5) := hb_v5
        have hb_v7 : (0 ≤ (Int32.toInt v7) ∧ (Int32.toInt v7) ≤ 6) := hb_v7
        have hI : zI XT g := hI
        have k0_0 : g 0 13 = g0 0 13 := k0_0
        have ih18 : ∀ v' : Int32 × Int32 × (Nat → Nat → Int32) × (Nat → Nat → Int64), (((1 ≤ (Int32.toInt v2) ∧ (Int32.toInt v2) ≤ 6)) ∧ ((0 ≤ (Int32.toInt v5) ∧ (Int32.toInt v5) ≤ 5)) ∧ ((0 ≤ (Int32.toInt (v'.2.1)) ∧ (Int32.toInt (v'.2.1)) ≤ 6)) ∧ (zI XT (v'.2.2.1)) ∧ ((v'.2.2.1) 0 13 = g0 0 13)) → 7 - (Int32.toInt (v'.2.1)) < 7 - (Int32.toInt v7) → 0 < 7 - (Int32.toInt v7) → Ex (k18 v') (fun (r : Int32) (g1 : Nat → Nat → Int32) (L1 : Nat → Nat → Int64) => zI XT g1 ∧ g1 0 13 = g0 0 13) := ih18
        show Ex (fX1_comingOf_8_s18 fu k6 v1 v2 v4 v5 k18 v6 v7 g L) (fun (r : Int32) (g1 : Nat → Nat → Int32) (L1 : Nat → Nat → Int64) => zI XT g1 ∧ g1 0 13 = g0 0 13)
        unfold fX1_comingOf_8_s18
        refine Ex.ite (fun c2 => ?_) (fun c2 => ?_)
        ·
          have c2 := icc_le (m := (Int32.toInt v2)) (n := (Int32.toInt v7)) rfl rfl c2
          have J84 : ∀ (v4 : Int32) (g : Nat → Nat → Int32) (L : Nat → Nat → Int64), (1 ≤ (Int32.toInt v2) ∧ (Int32.toInt v2) ≤ 6) → (0 ≤ (Int32.toInt v5) ∧ (Int32.toInt v5) ≤ 5) → zI XT g → g 0 13 = g0 0 13 → Ex (fX1_comingOf_8_p84 fu k6 v1 v2 v4 v5 g L) (fun (r : Int32) (g1 : Nat → Nat → Int32) (L1 : Nat → Nat → Int64) => zI XT g1 ∧ g1 0 13 = g0 0 13) := by
            intro v4 g L hb_v2 hb_v5 hI k0_0
            unfold fX1_comingOf_8_p84
            generalize z3q : (v5 + 1) = z3
            have e4 : (Int32.toInt z3) = (Int32.toInt v5) + 1 := by rw [← z3q]; exact ic_addc rfl (by decide) (by omega) (by omega)
            exact ih6 (v4, z3, g, L) ⟨(show (0 ≤ (Int32.toInt v2) ∧ (Int32.toInt v2) ≤ 6) from by omega), (show (0 ≤ (Int32.toInt z3) ∧ (Int32.toInt z3) ≤ 6) from by omega), hI, k0_0⟩ (by show 7 - (Int32.toInt z3) < _; omega) (by omega)
          refine Ex.ite (fun c5 => ?_) (fun c5 => ?_)
          ·
            have c5 := icc_lt (m := (Int32.toInt v6)) (n := (Int32.toInt v1)) rfl rfl c5
            exact J84 v4 g L (by omega) (by omega) hI k0_0
          ·
            have c5 := icc_nlt (m := (Int32.toInt v6)) (n := (Int32.toInt v1)) rfl rfl c5
            refine Ex.ck (by omega) (by omega) ?_
            refine Ex.ite (fun c6 => ?_) (fun c6 => ?_)
            ·
              have c6 := icc_le (m := (Int32.toInt v4)) (n := (Int32.toInt (g 47 (Int32.toNatClampNeg v5)))) rfl rfl c6
              exact J84 v4 g L (by omega) (by omega) hI k0_0
            ·
              have c6 := icc_nle (m := (Int32.toInt v4)) (n := (Int32.toInt (g 47 (Int32.toNatClampNeg v5)))) rfl rfl c6
              refine Ex.ck (by omega) (by omega) ?_
              refine Ex.lti (fun x7 x7e x7i => ?_)
              exact J84 x7 g L (by omega) (by omega) hI k0_0
        ·
          have c2 := icc_nle (m := (Int32.toInt v2)) (n := (Int32.toInt v7)) rfl rfl c2
          refine Ex.ck (by omega) (by omega) ?_
          refine Ex.ck (by omega) (by omega) ?_
          have J48 : ∀ (t0 : Int32) (t1 : Int32) (g : Nat → Nat → Int32) (L : Nat → Nat → Int64), (1 ≤ (Int32.toInt v2) ∧ (Int32.toInt v2) ≤ 6) → (0 ≤ (Int32.toInt v5) ∧ (Int32.toInt v5) ≤ 5) → (0 ≤ (Int32.toInt v7) ∧ (Int32.toInt v7) ≤ 5) → (0 ≤ (Int32.toInt t0) ∧ (Int32.toInt t0) ≤ 1) → zI XT g → g 0 13 = g0 0 13 → Ex (fX1_comingOf_8_p48 fu k6 k18 v1 v2 v4 v5 v7 t0 t1 g L) (fun (r : Int32) (g1 : Nat → Nat → Int32) (L1 : Nat → Nat → Int64) => zI XT g1 ∧ g1 0 13 = g0 0 13) := by
            intro t0 t1 g L hb_v2 hb_v5 hb_v7 hb_t0 hI k0_0
            unfold fX1_comingOf_8_p48
            generalize z8q : (t1 + t0) = z8
            refine Ex.lti (fun x9 x9e x9i => ?_)
            generalize z10q : (v7 + 1) = z10
            have e11 : (Int32.toInt z10) = (Int32.toInt v7) + 1 := by rw [← z10q]; exact ic_addc rfl (by decide) (by omega) (by omega)
            exact ih18 (x9, z10, g, L) ⟨(show (1 ≤ (Int32.toInt v2) ∧ (Int32.toInt v2) ≤ 6) from by omega), (show (0 ≤ (Int32.toInt v5) ∧ (Int32.toInt v5) ≤ 5) from by omega), (show (0 ≤ (Int32.toInt z10) ∧ (Int32.toInt z10) ≤ 6) from by omega), hI, k0_0⟩ (by show 7 - (Int32.toInt z10) < _; omega) (by omega)
          refine Ex.ite (fun c12 => ?_) (fun c12 => ?_)
          ·
            have c12 := icc_lt (m := (Int32.toInt (g 47 (Int32.toNatClampNeg v5)))) (n := (Int32.toInt (g 47 (Int32.toNatClampNeg v7)))) rfl rfl c12
            exact J48 0 v6 g L (by omega) (by omega) (by omega) (by decide) hI k0_0
          ·
            have c12 := icc_nlt (m := (Int32.toInt (g 47 (Int32.toNatClampNeg v5)))) (n := (Int32.toInt (g 47 (Int32.toNatClampNeg v7)))) rfl rfl c12
            exact J48 1 v6 g L (by omega) (by omega) (by omega) (by decide) hI k0_0
      exact lp18 0 0 g L (by omega) (by omega) (by decide) hI k0_0
  exact lp6 p1 p2 p3 0 g0 L0 (by omega) (by decide) hI k0_0
set_option maxHeartbeats 4000000 in
set_option maxRecDepth 100000 in
theorem sX1_firstComingAt_8_les (fu : Nat) (hfu : 1099511627776 ≤ fu) (p1 : Int32) (q1_ : Nat) (g0 : Nat → Nat → Int32) (L0 : Nat → Nat → Int64) (hI : zI XT g0) (q1_l : 57 ≤ q1_) (q1_h : q1_ < 81) : Ex (fX1_firstComingAt_8_les fu p1 q1_ g0 L0) (fun (r : Int32) (g1 : Nat → Nat → Int32) (L1 : Nat → Nat → Int64) => zI XT g1 ∧ g1 0 13 = g0 0 13 ∧ ((-1) ≤ (Int32.toInt r) ∧ (Int32.toInt r) ≤ 11)) := by
  have k0_0 : g0 0 13 = g0 0 13 := rfl
  unfold fX1_firstComingAt_8_les
  have lp2 : ∀ (v1 : Int32) (q2_ : Nat) (v3 : Int32) (g : Nat → Nat → Int32) (L : Nat → Nat → Int64), 57 ≤ q2_ → q2_ < 81 → (0 ≤ (Int32.toInt v3) ∧ (Int32.toInt v3) ≤ 6) → zI XT g → g 0 13 = g0 0 13 → Ex (fX1_firstComingAt_8_les_l2 fu v1 q2_ v3 g L) (fun (r : Int32) (g1 : Nat → Nat → Int32) (L1 : Nat → Nat → Int64) => zI XT g1 ∧ g1 0 13 = g0 0 13 ∧ ((-1) ≤ (Int32.toInt r) ∧ (Int32.toInt r) ≤ 11)) := by
    intro v1 q2_ v3 g L q2_l q2_h hb_v3 hI k0_0
    unfold fX1_firstComingAt_8_les_l2
    refine Ex.loop (fun v => (57 ≤ q2_) ∧ (q2_ < 81) ∧ ((0 ≤ (Int32.toInt (v.1)) ∧ (Int32.toInt (v.1)) ≤ 6)) ∧ (zI XT (v.2.1)) ∧ ((v.2.1) 0 13 = g0 0 13)) (fun v => 7 - (Int32.toInt (v.1))) (by omega) (by show 7 - (Int32.toInt v3) < (fu : Int); omega) ⟨q2_l, q2_h, hb_v3, hI, k0_0⟩ (fun k2 v hv ih2 => ?_)
    obtain ⟨v3, g, L⟩ := v
    obtain ⟨q2_l, q2_h, hb_v3, hI, k0_0⟩ := hv
    have q2_l : 57 ≤ q2_ := q2_l
    have q2_h : q2_ < 81 := q2_h
    have hb_v3 : (0 ≤ (Int32.toInt v3) ∧ (Int32.toInt v3) ≤ 6) := hb_v3
    have hI : zI XT g := hI
    have k0_0 : g 0 13 = g0 0 13 := k0_0
    have ih2 : ∀ v' : Int32 × (Nat → Nat → Int32) × (Nat → Nat → Int64), ((57 ≤ q2_) ∧ (q2_ < 81) ∧ ((0 ≤ (Int32.toInt (v'.1)) ∧ (Int32.toInt (v'.1)) ≤ 6)) ∧ (zI XT (v'.2.1)) ∧ ((v'.2.1) 0 13 = g0 0 13)) → 7 - (Int32.toInt (v'.1)) < 7 - (Int32.toInt v3) → 0 < 7 - (Int32.toInt v3) → Ex (k2 v') (fun (r : Int32) (g1 : Nat → Nat → Int32) (L1 : Nat → Nat → Int64) => zI XT g1 ∧ g1 0 13 = g0 0 13 ∧ ((-1) ≤ (Int32.toInt r) ∧ (Int32.toInt r) ≤ 11)) := ih2
    show Ex (fX1_firstComingAt_8_les_s2 fu v1 q2_ k2 v3 g L) (fun (r : Int32) (g1 : Nat → Nat → Int32) (L1 : Nat → Nat → Int64) => zI XT g1 ∧ g1 0 13 = g0 0 13 ∧ ((-1) ≤ (Int32.toInt r) ∧ (Int32.toInt r) ≤ 11))
    unfold fX1_firstComingAt_8_les_s2
    have b1 : 0 ≤ (Int32.toInt (g q2_ 1)) ∧ (Int32.toInt (g q2_ 1)) ≤ 6 := hI q2_ 1 0 6 (xt_les (by omega) (by omega))
    refine Ex.ite (fun c2 => ?_) (fun c2 => ?_)
    ·
      have c2 := icc_le (m := (Int32.toInt (g q2_ 1))) (n := (Int32.toInt v3)) rfl rfl c2
      exact Ex.ret ⟨hI, k0_0, (by decide)⟩
    ·
      have c2 := icc_nle (m := (Int32.toInt (g q2_ 1))) (n := (Int32.toInt v3)) rfl rfl c2
      refine Ex.ck (by omega) (by omega) ?_
      refine Ex.ite (fun c3 => ?_) (fun c3 => ?_)
      ·
        have c3 := icc_eq (m := (Int32.toInt (g 47 (Int32.toNatClampNeg v3)))) (n := (Int32.toInt v1)) rfl rfl c3
        refine Ex.ck (by omega) (by omega) ?_
        have b4 : 0 ≤ (Int32.toInt (g (q2_ + 24) (Int32.toNatClampNeg v3))) ∧ (Int32.toInt (g (q2_ + 24) (Int32.toNatClampNeg v3))) ≤ 11 := hI (q2_ + 24) _ 0 11 (xt_wai (by omega))
        exact Ex.ret ⟨hI, k0_0, (by omega)⟩
      ·
        have c3 := icc_neq (m := (Int32.toInt (g 47 (Int32.toNatClampNeg v3)))) (n := (Int32.toInt v1)) rfl rfl c3
        generalize z5q : (v3 + 1) = z5
        have e6 : (Int32.toInt z5) = (Int32.toInt v3) + 1 := by rw [← z5q]; exact ic_addc rfl (by decide) (by omega) (by omega)
        exact ih2 (z5, g, L) ⟨(show 57 ≤ q2_ from by omega), (show q2_ < 81 from by omega), (show (0 ≤ (Int32.toInt z5) ∧ (Int32.toInt z5) ≤ 6) from by omega), hI, k0_0⟩ (by show 7 - (Int32.toInt z5) < _; omega) (by omega)
  exact lp2 p1 q1_ 0 g0 L0 (by omega) (by omega) (by decide) hI k0_0
