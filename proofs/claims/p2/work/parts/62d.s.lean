set_option maxHeartbeats 4000000 in
set_option maxRecDepth 100000 in
theorem sX8_value_3_48 (fu : Nat) (hfu : 1099511627776 ≤ fu) (p1 : Int32) (g0 : Nat → Nat → Int32) (L0 : Nat → Nat → Int64) (hI : zI XT g0) : Ex (fX8_value_3_48 fu p1 g0 L0) (fun (r : Int32) (g1 : Nat → Nat → Int32) (L1 : Nat → Nat → Int64) => zI XT g1 ∧ g1 0 13 = g0 0 13) := by
  have k0_0 : g0 0 13 = g0 0 13 := rfl
  unfold fX8_value_3_48
  have J12 : ∀ (g : Nat → Nat → Int32) (L : Nat → Nat → Int64), zI XT g → g 0 13 = g0 0 13 → Ex (fX8_value_3_48_p12 fu g L) (fun (r : Int32) (g1 : Nat → Nat → Int32) (L1 : Nat → Nat → Int64) => zI XT g1 ∧ g1 0 13 = g0 0 13) := by
    intro g L hI k0_0
    unfold fX8_value_3_48_p12
    exact Ex.ret ⟨hI, k0_0⟩
  refine Ex.ite (fun c1 => ?_) (fun c1 => ?_)
  ·
    have c1 := icc_lt (m := (Int32.toInt p1)) (n := 0) rfl (by decide) c1
    exact J12 g0 L0 hI k0_0
  ·
    have c1 := icc_nlt (m := (Int32.toInt p1)) (n := 0) rfl (by decide) c1
    have b2 : 0 ≤ (Int32.toInt (g0 3 3)) ∧ (Int32.toInt (g0 3 3)) ≤ 4 := hI 3 3 0 4 rfl
    refine Ex.ite (fun c3 => ?_) (fun c3 => ?_)
    ·
      have c3 := icc_lt (m := (Int32.toInt p1)) (n := (Int32.toInt (g0 3 3))) rfl rfl c3
      refine Ex.ck (by omega) (by omega) ?_
      have b4 : 0 ≤ (Int32.toInt (g0 20 (Int32.toNatClampNeg p1))) ∧ (Int32.toInt (g0 20 (Int32.toNatClampNeg p1))) ≤ 700 := hI 20 _ 0 700 rfl
      refine Ex.lti (fun x5 x5e x5i => ?_)
      have lp24 : ∀ (v1 : Int32) (v3 : Int32) (v4 : Int32) (g : Nat → Nat → Int32) (L : Nat → Nat → Int64), (0 ≤ (Int32.toInt v1) ∧ (Int32.toInt v1) ≤ 3) → (0 ≤ (Int32.toInt v3) ∧ (Int32.toInt v3) ≤ 64) → (0 ≤ (Int32.toInt v4) ∧ (Int32.toInt v4) ≤ 700) → zI XT g → g 0 13 = g0 0 13 → Ex (fX8_value_3_48_l24 fu v1 v3 v4 g L) (fun (r : Int32) (g1 : Nat → Nat → Int32) (L1 : Nat → Nat → Int64) => zI XT g1 ∧ g1 0 13 = g0 0 13) := by
        intro v1 v3 v4 g L hb_v1 hb_v3 hb_v4 hI k0_0
        unfold fX8_value_3_48_l24
        refine Ex.loop (fun v => ((0 ≤ (Int32.toInt v1) ∧ (Int32.toInt v1) ≤ 3)) ∧ ((0 ≤ (Int32.toInt (v.1)) ∧ (Int32.toInt (v.1)) ≤ 64)) ∧ ((0 ≤ (Int32.toInt (v.2.1)) ∧ (Int32.toInt (v.2.1)) ≤ 700)) ∧ (zI XT (v.2.2.1)) ∧ ((v.2.2.1) 0 13 = g0 0 13)) (fun v => 701 - (Int32.toInt (v.2.1))) (by omega) (by show 701 - (Int32.toInt v4) < (fu : Int); omega) ⟨hb_v1, hb_v3, hb_v4, hI, k0_0⟩ (fun k24 v hv ih24 => ?_)
        obtain ⟨v3, v4, g, L⟩ := v
        obtain ⟨hb_v1, hb_v3, hb_v4, hI, k0_0⟩ := hv
        have hb_v1 : (0 ≤ (Int32.toInt v1) ∧ (Int32.toInt v1) ≤ 3) := hb_v1
        have hb_v3 : (0 ≤ (Int32.toInt v3) ∧ (Int32.toInt v3) ≤ 64) := hb_v3
        have hb_v4 : (0 ≤ (Int32.toInt v4) ∧ (Int32.toInt v4) ≤ 700) := hb_v4
        have hI : zI XT g := hI
        have k0_0 : g 0 13 = g0 0 13 := k0_0
        have ih24 : ∀ v' : Int32 × Int32 × (Nat → Nat → Int32) × (Nat → Nat → Int64), (((0 ≤ (Int32.toInt v1) ∧ (Int32.toInt v1) ≤ 3)) ∧ ((0 ≤ (Int32.toInt (v'.1)) ∧ (Int32.toInt (v'.1)) ≤ 64)) ∧ ((0 ≤ (Int32.toInt (v'.2.1)) ∧ (Int32.toInt (v'.2.1)) ≤ 700)) ∧ (zI XT (v'.2.2.1)) ∧ ((v'.2.2.1) 0 13 = g0 0 13)) → 701 - (Int32.toInt (v'.2.1)) < 701 - (Int32.toInt v4) → 0 < 701 - (Int32.toInt v4) → Ex (k24 v') (fun (r : Int32) (g1 : Nat → Nat → Int32) (L1 : Nat → Nat → Int64) => zI XT g1 ∧ g1 0 13 = g0 0 13) := ih24
        show Ex (fX8_value_3_48_s24 fu v1 k24 v3 v4 g L) (fun (r : Int32) (g1 : Nat → Nat → Int32) (L1 : Nat → Nat → Int64) => zI XT g1 ∧ g1 0 13 = g0 0 13)
        unfold fX8_value_3_48_s24
        generalize z6q : (v1 + 1) = z6
        have e7 : (Int32.toInt z6) = (Int32.toInt v1) + 1 := by rw [← z6q]; exact ic_addc rfl (by decide) (by omega) (by omega)
        refine Ex.ck (by omega) (by omega) ?_
        have b8 : 0 ≤ (Int32.toInt (g 20 (Int32.toNatClampNeg z6))) ∧ (Int32.toInt (g 20 (Int32.toNatClampNeg z6))) ≤ 700 := hI 20 _ 0 700 rfl
        refine Ex.ite (fun c9 => ?_) (fun c9 => ?_)
        ·
          have c9 := icc_le (m := (Int32.toInt (g 20 (Int32.toNatClampNeg z6)))) (n := (Int32.toInt v4)) rfl rfl c9
          have J188 : ∀ (t0 : Int32) (g : Nat → Nat → Int32) (L : Nat → Nat → Int64), zI XT g → g 0 13 = g0 0 13 → Ex (fX8_value_3_48_p188 fu t0 g L) (fun (r : Int32) (g1 : Nat → Nat → Int32) (L1 : Nat → Nat → Int64) => zI XT g1 ∧ g1 0 13 = g0 0 13) := by
            intro t0 g L hI k0_0
            unfold fX8_value_3_48_p188
            exact Ex.ret ⟨hI, k0_0⟩
          refine Ex.ite (fun c10 => ?_) (fun c10 => ?_)
          ·
            have c10 := icc_eq (m := (Int32.toInt v3)) (n := 1) rfl (by decide) c10
            refine Ex.ck (by decide) (by decide) ?_
            exact J188 (g 21 (Int32.toNatClampNeg 0)) g L hI k0_0
          ·
            have c10 := icc_neq (m := (Int32.toInt v3)) (n := 1) rfl (by decide) c10
            exact J188 0 g L hI k0_0
        ·
          have c9 := icc_nle (m := (Int32.toInt (g 20 (Int32.toNatClampNeg z6)))) (n := (Int32.toInt v4)) rfl rfl c9
          refine Ex.ck (by omega) (by omega) ?_
          refine Ex.lti (fun x11 x11e x11i => ?_)
          have J167 : ∀ (v3 : Int32) (g : Nat → Nat → Int32) (L : Nat → Nat → Int64), (0 ≤ (Int32.toInt v1) ∧ (Int32.toInt v1) ≤ 3) → (1 ≤ (Int32.toInt v3) ∧ (Int32.toInt v3) ≤ 64) → (0 ≤ (Int32.toInt v4) ∧ (Int32.toInt v4) ≤ 699) → zI XT g → g 0 13 = g0 0 13 → Ex (fX8_value_3_48_p167 fu k24 v1 v3 v4 g L) (fun (r : Int32) (g1 : Nat → Nat → Int32) (L1 : Nat → Nat → Int64) => zI XT g1 ∧ g1 0 13 = g0 0 13) := by
            intro v3 g L hb_v1 hb_v3 hb_v4 hI k0_0
            unfold fX8_value_3_48_p167
            generalize z12q : (v4 + 1) = z12
            have e13 : (Int32.toInt z12) = (Int32.toInt v4) + 1 := by rw [← z12q]; exact ic_addc rfl (by decide) (by omega) (by omega)
            exact ih24 (v3, z12, g, L) ⟨(show (0 ≤ (Int32.toInt v1) ∧ (Int32.toInt v1) ≤ 3) from by omega), (show (0 ≤ (Int32.toInt v3) ∧ (Int32.toInt v3) ≤ 64) from by omega), (show (0 ≤ (Int32.toInt z12) ∧ (Int32.toInt z12) ≤ 700) from by omega), hI, k0_0⟩ (by show 701 - (Int32.toInt z12) < _; omega) (by omega)
          refine Ex.ite (fun c14 => ?_) (fun c14 => ?_)
          ·
            have c14 := icc_lt (m := (Int32.toInt x11)) (n := (-6)) rfl (by decide) c14
            refine Ex.ite (fun c15 => ?_) (fun c15 => ?_)
            ·
              have c15 := icc_eq (m := (Int32.toInt x11)) (n := (-15)) rfl (by decide) c15
              refine Ex.ite (fun c16 => ?_) (fun c16 => ?_)
              ·
                have c16 := icc_le (m := 1) (n := (Int32.toInt v3)) (by decide) rfl c16
                generalize z17q : (v3 - 1) = z17
                have e18 : (Int32.toInt z17) = (Int32.toInt v3) - 1 := by rw [← z17q]; exact ic_subc rfl (by decide) (by omega) (by omega)
                have e19 : (Int32.toInt z17) = (Int32.toInt v3) - 1 := by rw [← z17q]; exact ic_subc rfl (by decide) (by omega) (by omega)
                refine Ex.ck (by omega) (by omega) ?_
                have J126 : ∀ (t0 : Int32) (t1 : Int32) (g : Nat → Nat → Int32) (L : Nat → Nat → Int64), (0 ≤ (Int32.toInt v1) ∧ (Int32.toInt v1) ≤ 3) → (1 ≤ (Int32.toInt v3) ∧ (Int32.toInt v3) ≤ 64) → (0 ≤ (Int32.toInt v4) ∧ (Int32.toInt v4) ≤ 699) → (0 ≤ (Int32.toInt t0) ∧ (Int32.toInt t0) ≤ 1) → (0 ≤ (Int32.toInt t1) ∧ (Int32.toInt t1) ≤ 63) → zI XT g → g 0 13 = g0 0 13 → Ex (fX8_value_3_48_p126 fu k24 v1 v3 v4 t0 t1 g L) (fun (r : Int32) (g1 : Nat → Nat → Int32) (L1 : Nat → Nat → Int64) => zI XT g1 ∧ g1 0 13 = g0 0 13) := by
                  intro t0 t1 g L hb_v1 hb_v3 hb_v4 hb_t0 hb_t1 hI k0_0
                  unfold fX8_value_3_48_p126
                  refine Ex.ck (by omega) (by omega) ?_
                  refine Ex.sti (hI.updN rfl) (fun g20 g20e hI => ?_)
                  have k0_0 : g20 0 13 = g0 0 13 := by rw [g20e]; exact k0_0
                  exact J167 v3 g20 L (by omega) (by omega) (by omega) hI k0_0
                refine Ex.ite (fun c21 => ?_) (fun c21 => ?_)
                ·
                  have c21 := icc_eq (m := (Int32.toInt (g 21 (Int32.toNatClampNeg z17)))) (n := 0) rfl (by decide) c21
                  exact J126 1 z17 g L (by omega) (by omega) (by omega) (by decide) (by omega) hI k0_0
                ·
                  have c21 := icc_neq (m := (Int32.toInt (g 21 (Int32.toNatClampNeg z17)))) (n := 0) rfl (by decide) c21
                  exact J126 0 z17 g L (by omega) (by omega) (by omega) (by decide) (by omega) hI k0_0
              ·
                have c16 := icc_nle (m := 1) (n := (Int32.toInt v3)) (by decide) rfl c16
                exact Ex.ret ⟨hI, k0_0⟩
            ·
              have c15 := icc_neq (m := (Int32.toInt x11)) (n := (-15)) rfl (by decide) c15
              refine Ex.ite (fun c22 => ?_) (fun c22 => ?_)
              ·
                have c22 := icc_le (m := 2) (n := (Int32.toInt v3)) (by decide) rfl c22
                generalize z23q : (v3 + (-1)) = z23
                have e24 : (Int32.toInt z23) = (Int32.toInt v3) + (-1) := by rw [← z23q]; exact ic_addc rfl (by decide) (by omega) (by omega)
                generalize z25q : (z23 - 1) = z25
                have e26 : (Int32.toInt z25) = (Int32.toInt z23) - 1 := by rw [← z25q]; exact ic_subc rfl (by decide) (by omega) (by omega)
                have e27 : (Int32.toInt z25) = (Int32.toInt z23) - 1 := by rw [← z25q]; exact ic_subc rfl (by decide) (by omega) (by omega)
                refine Ex.ck (by omega) (by omega) ?_
                refine Ex.ck (by omega) (by omega) ?_
                refine Ex.cb (sX8_joined fu hfu x11 (g 21 (Int32.toNatClampNeg z25)) (g 21 (Int32.toNatClampNeg z23)) g L hI) (fun x28 g29 L30 hq32 => ?_)
                obtain ⟨hI, kk0⟩ := hq32
                have hI : zI XT g29 := hI
                have k0_0 : g29 0 13 = g0 0 13 := kk0.trans k0_0
                refine Ex.ck (by omega) (by omega) ?_
                refine Ex.sti (hI.updN rfl) (fun g33 g33e hI => ?_)
                have k0_0 : g33 0 13 = g0 0 13 := by rw [g33e]; exact k0_0
                exact J167 z23 g33 L30 (by omega) (by omega) (by omega) hI k0_0
              ·
                have c22 := icc_nle (m := 2) (n := (Int32.toInt v3)) (by decide) rfl c22
                exact Ex.ret ⟨hI, k0_0⟩
          ·
            have c14 := icc_nlt (m := (Int32.toInt x11)) (n := (-6)) rfl (by decide) c14
            refine Ex.ite (fun c34 => ?_) (fun c34 => ?_)
            ·
              have c34 := icc_lt (m := (Int32.toInt v3)) (n := 64) rfl (by decide) c34
              have J82 : ∀ (t0 : Int32) (t1 : Int32) (g : Nat → Nat → Int32) (L : Nat → Nat → Int64), (0 ≤ (Int32.toInt v1) ∧ (Int32.toInt v1) ≤ 3) → (0 ≤ (Int32.toInt v3) ∧ (Int32.toInt v3) ≤ 63) → (0 ≤ (Int32.toInt v4) ∧ (Int32.toInt v4) ≤ 699) → (0 ≤ (Int32.toInt t1) ∧ (Int32.toInt t1) ≤ 63) → zI XT g → g 0 13 = g0 0 13 → Ex (fX8_value_3_48_p82 fu k24 v1 v3 v4 t0 t1 g L) (fun (r : Int32) (g1 : Nat → Nat → Int32) (L1 : Nat → Nat → Int64) => zI XT g1 ∧ g1 0 13 = g0 0 13) := by
                intro t0 t1 g L hb_v1 hb_v3 hb_v4 hb_t1 hI k0_0
                unfold fX8_value_3_48_p82
                refine Ex.ck (by omega) (by omega) ?_
                refine Ex.sti (hI.updN rfl) (fun g35 g35e hI => ?_)
                have k0_0 : g35 0 13 = g0 0 13 := by rw [g35e]; exact k0_0
                generalize z36q : (v3 + 1) = z36
                have e37 : (Int32.toInt z36) = (Int32.toInt v3) + 1 := by rw [← z36q]; exact ic_addc rfl (by decide) (by omega) (by omega)
                exact J167 z36 g35 L (by omega) (by omega) (by omega) hI k0_0
              refine Ex.ite (fun c38 => ?_) (fun c38 => ?_)
              ·
                have c38 := icc_lt (m := (Int32.toInt x11)) (n := 0) rfl (by decide) c38
                generalize z39q : ((-1) - x11) = z39
                have e40 : (Int32.toInt z39) = (-1) - (Int32.toInt x11) := by rw [← z39q]; exact ic_subc (by decide) rfl (by omega) (by omega)
                refine Ex.ck (by omega) (by omega) ?_
                exact J82 (g 48 (Int32.toNatClampNeg z39)) v3 g L (by omega) (by omega) (by omega) (by omega) hI k0_0
              ·
                have c38 := icc_nlt (m := (Int32.toInt x11)) (n := 0) rfl (by decide) c38
                exact J82 x11 v3 g L (by omega) (by omega) (by omega) (by omega) hI k0_0
            ·
              have c34 := icc_nlt (m := (Int32.toInt v3)) (n := 64) rfl (by decide) c34
              exact Ex.ret ⟨hI, k0_0⟩
      exact lp24 p1 0 x5 g0 L0 (by omega) (by decide) (by omega) hI k0_0
    ·
      have c3 := icc_nlt (m := (Int32.toInt p1)) (n := (Int32.toInt (g0 3 3))) rfl rfl c3
      exact J12 g0 L0 hI k0_0
