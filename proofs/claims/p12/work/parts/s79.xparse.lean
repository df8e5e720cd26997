set_option maxHeartbeats 4000000 in
set_option maxRecDepth 100000 in
theorem sX6_isWord_5_over (fu : Nat) (hfu : 1180591620717411303424 ≤ fu) (g0 : Nat → Nat → Int32) (L0 : Nat → Nat → Int64) (hI : zI XT g0) (hJ : pJ g0) : Ex (fX6_isWord_5_over fu g0 L0) (fun (r : Int32) (g1 : Nat → Nat → Int32) (L1 : Nat → Nat → Int64) => zI XT g1 ∧ pJ g1 ∧ g1 2 2 = g0 2 2 ∧ g1 0 13 = g0 0 13 ∧ (0 ≤ (Int32.toInt r) ∧ (Int32.toInt r) ≤ 1)) := by
  have k0_0 : g0 2 2 = g0 2 2 := rfl
  have k0_1 : g0 0 13 = g0 0 13 := rfl
  unfold fX6_isWord_5_over
  have J24 : ∀ (g : Nat → Nat → Int32) (L : Nat → Nat → Int64), zI XT g → pJ g → g 2 2 = g0 2 2 → g 0 13 = g0 0 13 → Ex (fX6_isWord_5_over_p24 fu g L) (fun (r : Int32) (g1 : Nat → Nat → Int32) (L1 : Nat → Nat → Int64) => zI XT g1 ∧ pJ g1 ∧ g1 2 2 = g0 2 2 ∧ g1 0 13 = g0 0 13 ∧ (0 ≤ (Int32.toInt r) ∧ (Int32.toInt r) ≤ 1)) := by
    intro g L hI hJ k0_0 k0_1
    unfold fX6_isWord_5_over_p24
    refine Ex.ckb rfl ?_
    exact Ex.ret ⟨hI, hJ, k0_0, k0_1, (by decide)⟩
  refine Ex.ite (fun c1 => ?_) (fun c1 => ?_)
  ·
    have c1 := icc_eq (m := (Int32.toInt (g0 5 4))) (n := 2) rfl (by decide) c1
    have b2 : 0 ≤ (Int32.toInt (g0 5 3)) ∧ (Int32.toInt (g0 5 3)) ≤ 700 := hI 5 3 0 700 rfl
    have b3 : 0 ≤ (Int32.toInt (g0 5 5)) ∧ (Int32.toInt (g0 5 5)) ≤ 700 := hI 5 5 0 700 rfl
    generalize z4q : ((g0 5 3) - (g0 5 5)) = z4
    have e5 : (Int32.toInt z4) = (Int32.toInt (g0 5 3)) - (Int32.toInt (g0 5 5)) := by rw [← z4q]; exact ic_subc rfl rfl (by omega) (by omega)
    refine Ex.ite (fun c6 => ?_) (fun c6 => ?_)
    ·
      have c6 := icc_eq (m := (Int32.toInt z4)) (n := 4) rfl (by decide) c6
      have lp28 : ∀ (v2 : Int32) (g : Nat → Nat → Int32) (L : Nat → Nat → Int64), (0 ≤ (Int32.toInt v2) ∧ (Int32.toInt v2) ≤ 4) → ((Int32.toInt (g 5 5)) = (Int32.toInt (g0 5 5))) → zI XT g → pJ g → g 2 2 = g0 2 2 → g 0 13 = g0 0 13 → Ex (fX6_isWord_5_over_l28 fu v2 g L) (fun (r : Int32) (g1 : Nat → Nat → Int32) (L1 : Nat → Nat → Int64) => zI XT g1 ∧ pJ g1 ∧ g1 2 2 = g0 2 2 ∧ g1 0 13 = g0 0 13 ∧ (0 ≤ (Int32.toInt r) ∧ (Int32.toInt r) ≤ 1)) := by
        intro v2 g L hb_v2 hn_0 hI hJ k0_0 k0_1
        unfold fX6_isWord_5_over_l28
        refine Ex.loop (fun v => ((0 ≤ (Int32.toInt (v.1)) ∧ (Int32.toInt (v.1)) ≤ 4)) ∧ (((Int32.toInt ((v.2.1) 5 5)) = (Int32.toInt (g0 5 5)))) ∧ (zI XT (v.2.1)) ∧ (pJ (v.2.1)) ∧ ((v.2.1) 2 2 = g0 2 2) ∧ ((v.2.1) 0 13 = g0 0 13)) (fun v => 5 - (Int32.toInt (v.1))) (by omega) (by show 5 - (Int32.toInt v2) < (fu : Int); omega) ⟨hb_v2, hn_0, hI, hJ, k0_0, k0_1⟩ (fun k28 v hv ih28 => ?_)
        obtain ⟨v2, g, L⟩ := v
        obtain ⟨hb_v2, hn_0, hI, hJ, k0_0, k0_1⟩ := hv
        have hb_v2 : (0 ≤ (Int32.toInt v2) ∧ (Int32.toInt v2) ≤ 4) := hb_v2
        have hn_0 : ((Int32.toInt (g 5 5)) = (Int32.toInt (g0 5 5))) := hn_0
        have hI : zI XT g := hI
        have hJ : pJ g := hJ
        have k0_0 : g 2 2 = g0 2 2 := k0_0
        have k0_1 : g 0 13 = g0 0 13 := k0_1
        have ih28 : ∀ v' : Int32 × (Nat → Nat → Int32) × (Nat → Nat → Int64), (((0 ≤ (Int32.toInt (v'.1)) ∧ (Int32.toInt (v'.1)) ≤ 4)) ∧ (((Int32.toInt ((v'.2.1) 5 5)) = (Int32.toInt (g0 5 5)))) ∧ (zI XT (v'.2.1)) ∧ (pJ (v'.2.1)) ∧ ((v'.2.1) 2 2 = g0 2 2) ∧ ((v'.2.1) 0 13 = g0 0 13)) → 5 - (Int32.toInt (v'.1)) < 5 - (Int32.toInt v2) → 0 < 5 - (Int32.toInt v2) → Ex (k28 v') (fun (r : Int32) (g1 : Nat → Nat → Int32) (L1 : Nat → Nat → Int64) => zI XT g1 ∧ pJ g1 ∧ g1 2 2 = g0 2 2 ∧ g1 0 13 = g0 0 13 ∧ (0 ≤ (Int32.toInt r) ∧ (Int32.toInt r) ≤ 1)) := ih28
        show Ex (fX6_isWord_5_over_s28 fu k28 v2 g L) (fun (r : Int32) (g1 : Nat → Nat → Int32) (L1 : Nat → Nat → Int64) => zI XT g1 ∧ pJ g1 ∧ g1 2 2 = g0 2 2 ∧ g1 0 13 = g0 0 13 ∧ (0 ≤ (Int32.toInt r) ∧ (Int32.toInt r) ≤ 1))
        unfold fX6_isWord_5_over_s28
        refine Ex.ite (fun c7 => ?_) (fun c7 => ?_)
        ·
          have c7 := icc_le (m := 4) (n := (Int32.toInt v2)) (by decide) rfl c7
          refine Ex.ckb rfl ?_
          exact Ex.ret ⟨hI, hJ, k0_0, k0_1, (by decide)⟩
        ·
          have c7 := icc_nle (m := 4) (n := (Int32.toInt v2)) (by decide) rfl c7
          have b8 : 0 ≤ (Int32.toInt (g 5 5)) ∧ (Int32.toInt (g 5 5)) ≤ 700 := hI 5 5 0 700 rfl
          generalize z9q : ((g 5 5) + v2) = z9
          have e10 : (Int32.toInt z9) = (Int32.toInt (g 5 5)) + (Int32.toInt v2) := by rw [← z9q]; exact ic_addc rfl rfl (by omega) (by omega)
          refine Ex.ck (by omega) (by omega) ?_
          have b11 : 0 ≤ (Int32.toInt (g 14 (Int32.toNatClampNeg z9))) ∧ (Int32.toInt (g 14 (Int32.toNatClampNeg z9))) ≤ 255 := hI 14 _ 0 255 rfl
          refine Ex.ck (by omega) (by omega) ?_
          refine Ex.ite (fun c12 => ?_) (fun c12 => ?_)
          ·
            have c12 := icc_eq (m := (Int32.toInt (g 14 (Int32.toNatClampNeg z9)))) (n := (Int32.toInt (sch 12 (Int32.toNatClampNeg v2)))) rfl rfl c12
            generalize z13q : (v2 + 1) = z13
            have e14 : (Int32.toInt z13) = (Int32.toInt v2) + 1 := by rw [← z13q]; exact ic_addc rfl (by decide) (by omega) (by omega)
            exact ih28 (z13, g, L) ⟨(show (0 ≤ (Int32.toInt z13) ∧ (Int32.toInt z13) ≤ 4) from by omega), (show ((Int32.toInt (g 5 5)) = (Int32.toInt (g0 5 5))) from by omega), hI, hJ, k0_0, k0_1⟩ (by show 5 - (Int32.toInt z13) < _; omega) (by omega)
          ·
            have c12 := icc_neq (m := (Int32.toInt (g 14 (Int32.toNatClampNeg z9)))) (n := (Int32.toInt (sch 12 (Int32.toNatClampNeg v2)))) rfl rfl c12
            refine Ex.ckb rfl ?_
            exact Ex.ret ⟨hI, hJ, k0_0, k0_1, (by decide)⟩
      have hc_ : (0 : Int32).toInt = 0 := by decide
      exact lp28 0 g0 L0 (by decide) (by omega) hI hJ k0_0 k0_1
    ·
      have c6 := icc_neq (m := (Int32.toInt z4)) (n := 4) rfl (by decide) c6
      exact J24 g0 L0 hI hJ k0_0 k0_1
  ·
    have c1 := icc_neq (m := (Int32.toInt (g0 5 4))) (n := 2) rfl (by decide) c1
    exact J24 g0 L0 hI hJ k0_0 k0_1
set_option maxHeartbeats 4000000 in
set_option maxRecDepth 100000 in
theorem sX6_isWord_5_late (fu : Nat) (hfu : 1180591620717411303424 ≤ fu) (g0 : Nat → Nat → Int32) (L0 : Nat → Nat → Int64) (hI : zI XT g0) (hJ : pJ g0) : Ex (fX6_isWord_5_late fu g0 L0) (fun (r : Int32) (g1 : Nat → Nat → Int32) (L1 : Nat → Nat → Int64) => zI XT g1 ∧ pJ g1 ∧ g1 2 2 = g0 2 2 ∧ g1 0 13 = g0 0 13 ∧ (0 ≤ (Int32.toInt r) ∧ (Int32.toInt r) ≤ 1)) := by
  have k0_0 : g0 2 2 = g0 2 2 := rfl
  have k0_1 : g0 0 13 = g0 0 13 := rfl
  unfold fX6_isWord_5_late
  have J24 : ∀ (g : Nat → Nat → Int32) (L : Nat → Nat → Int64), zI XT g → pJ g → g 2 2 = g0 2 2 → g 0 13 = g0 0 13 → Ex (fX6_isWord_5_late_p24 fu g L) (fun (r : Int32) (g1 : Nat → Nat → Int32) (L1 : Nat → Nat → Int64) => zI XT g1 ∧ pJ g1 ∧ g1 2 2 = g0 2 2 ∧ g1 0 13 = g0 0 13 ∧ (0 ≤ (Int32.toInt r) ∧ (Int32.toInt r) ≤ 1)) := by
    intro g L hI hJ k0_0 k0_1
    unfold fX6_isWord_5_late_p24
    refine Ex.ckb rfl ?_
    exact Ex.ret ⟨hI, hJ, k0_0, k0_1, (by decide)⟩
  refine Ex.ite (fun c1 => ?_) (fun c1 => ?_)
  ·
    have c1 := icc_eq (m := (Int32.toInt (g0 5 4))) (n := 2) rfl (by decide) c1
    have b2 : 0 ≤ (Int32.toInt (g0 5 3)) ∧ (Int32.toInt (g0 5 3)) ≤ 700 := hI 5 3 0 700 rfl
    have b3 : 0 ≤ (Int32.toInt (g0 5 5)) ∧ (Int32.toInt (g0 5 5)) ≤ 700 := hI 5 5 0 700 rfl
    generalize z4q : ((g0 5 3) - (g0 5 5)) = z4
    have e5 : (Int32.toInt z4) = (Int32.toInt (g0 5 3)) - (Int32.toInt (g0 5 5)) := by rw [← z4q]; exact ic_subc rfl rfl (by omega) (by omega)
    refine Ex.ite (fun c6 => ?_) (fun c6 => ?_)
    ·
      have c6 := icc_eq (m := (Int32.toInt z4)) (n := 4) rfl (by decide) c6
      have lp28 : ∀ (v2 : Int32) (g : Nat → Nat → Int32) (L : Nat → Nat → Int64), (0 ≤ (Int32.toInt v2) ∧ (Int32.toInt v2) ≤ 4) → ((Int32.toInt (g 5 5)) = (Int32.toInt (g0 5 5))) → zI XT g → pJ g → g 2 2 = g0 2 2 → g 0 13 = g0 0 13 → Ex (fX6_isWord_5_late_l28 fu v2 g L) (fun (r : Int32) (g1 : Nat → Nat → Int32) (L1 : Nat → Nat → Int64) => zI XT g1 ∧ pJ g1 ∧ g1 2 2 = g0 2 2 ∧ g1 0 13 = g0 0 13 ∧ (0 ≤ (Int32.toInt r) ∧ (Int32.toInt r) ≤ 1)) := by
        intro v2 g L hb_v2 hn_0 hI hJ k0_0 k0_1
        unfold fX6_isWord_5_late_l28
        refine Ex.loop (fun v => ((0 ≤ (Int32.toInt (v.1)) ∧ (Int32.toInt (v.1)) ≤ 4)) ∧ (((Int32.toInt ((v.2.1) 5 5)) = (Int32.toInt (g0 5 5)))) ∧ (zI XT (v.2.1)) ∧ (pJ (v.2.1)) ∧ ((v.2.1) 2 2 = g0 2 2) ∧ ((v.2.1) 0 13 = g0 0 13)) (fun v => 5 - (Int32.toInt (v.1))) (by omega) (by show 5 - (Int32.toInt v2) < (fu : Int); omega) ⟨hb_v2, hn_0, hI, hJ, k0_0, k0_1⟩ (fun k28 v hv ih28 => ?_)
        obtain ⟨v2, g, L⟩ := v
        obtain ⟨hb_v2, hn_0, hI, hJ, k0_0, k0_1⟩ := hv
        have hb_v2 : (0 ≤ (Int32.toInt v2) ∧ (Int32.toInt v2) ≤ 4) := hb_v2
        have hn_0 : ((Int32.toInt (g 5 5)) = (Int32.toInt (g0 5 5))) := hn_0
        have hI : zI XT g := hI
        have hJ : pJ g := hJ
        have k0_0 : g 2 2 = g0 2 2 := k0_0
        have k0_1 : g 0 13 = g0 0 13 := k0_1
        have ih28 : ∀ v' : Int32 × (Nat → Nat → Int32) × (Nat → Nat → Int64), (((0 ≤ (Int32.toInt (v'.1)) ∧ (Int32.toInt (v'.1)) ≤ 4)) ∧ (((Int32.toInt ((v'.2.1) 5 5)) = (Int32.toInt (g0 5 5)))) ∧ (zI XT (v'.2.1)) ∧ (pJ (v'.2.1)) ∧ ((v'.2.1) 2 2 = g0 2 2) ∧ ((v'.2.1) 0 13 = g0 0 13)) → 5 - (Int32.toInt (v'.1)) < 5 - (Int32.toInt v2) → 0 < 5 - (Int32.toInt v2) → Ex (k28 v') (fun (r : Int32) (g1 : Nat → Nat → Int32) (L1 : Nat → Nat → Int64) => zI XT g1 ∧ pJ g1 ∧ g1 2 2 = g0 2 2 ∧ g1 0 13 = g0 0 13 ∧ (0 ≤ (Int32.toInt r) ∧ (Int32.toInt r) ≤ 1)) := ih28
        show Ex (fX6_isWord_5_late_s28 fu k28 v2 g L) (fun (r : Int32) (g1 : Nat → Nat → Int32) (L1 : Nat → Nat → Int64) => zI XT g1 ∧ pJ g1 ∧ g1 2 2 = g0 2 2 ∧ g1 0 13 = g0 0 13 ∧ (0 ≤ (Int32.toInt r) ∧ (Int32.toInt r) ≤ 1))
        unfold fX6_isWord_5_late_s28
        refine Ex.ite (fun c7 => ?_) (fun c7 => ?_)
        ·
          have c7 := icc_le (m := 4) (n := (Int32.toInt v2)) (by decide) rfl c7
          refine Ex.ckb rfl ?_
          exact Ex.ret ⟨hI, hJ, k0_0, k0_1, (by decide)⟩
        ·
          have c7 := icc_nle (m := 4) (n := (Int32.toInt v2)) (by decide) rfl c7
          have b8 : 0 ≤ (Int32.toInt (g 5 5)) ∧ (Int32.toInt (g 5 5)) ≤ 700 := hI 5 5 0 700 rfl
          generalize z9q : ((g 5 5) + v2) = z9
          have e10 : (Int32.toInt z9) = (Int32.toInt (g 5 5)) + (Int32.toInt v2) := by rw [← z9q]; exact ic_addc rfl rfl (by omega) (by omega)
          refine Ex.ck (by omega) (by omega) ?_
          have b11 : 0 ≤ (Int32.toInt (g 14 (Int32.toNatClampNeg z9))) ∧ (Int32.toInt (g 14 (Int32.toNatClampNeg z9))) ≤ 255 := hI 14 _ 0 255 rfl
          refine Ex.ck (by omega) (by omega) ?_
          refine Ex.ite (fun c12 => ?_) (fun c12 => ?_)
          ·
            have c12 := icc_eq (m := (Int32.toInt (g 14 (Int32.toNatClampNeg z9)))) (n := (Int32.toInt (sch 13 (Int32.toNatClampNeg v2)))) rfl rfl c12
            generalize z13q : (v2 + 1) = z13
            have e14 : (Int32.toInt z13) = (Int32.toInt v2) + 1 := by rw [← z13q]; exact ic_addc rfl (by decide) (by omega) (by omega)
            exact ih28 (z13, g, L) ⟨(show (0 ≤ (Int32.toInt z13) ∧ (Int32.toInt z13) ≤ 4) from by omega), (show ((Int32.toInt (g 5 5)) = (Int32.toInt (g0 5 5))) from by omega), hI, hJ, k0_0, k0_1⟩ (by show 5 - (Int32.toInt z13) < _; omega) (by omega)
          ·
            have c12 := icc_neq (m := (Int32.toInt (g 14 (Int32.toNatClampNeg z9)))) (n := (Int32.toInt (sch 13 (Int32.toNatClampNeg v2)))) rfl rfl c12
            refine Ex.ckb rfl ?_
            exact Ex.ret ⟨hI, hJ, k0_0, k0_1, (by decide)⟩
      have hc_ : (0 : Int32).toInt = 0 := by decide
      exact lp28 0 g0 L0 (by decide) (by omega) hI hJ k0_0 k0_1
    ·
      have c6 := icc_neq (m := (Int32.toInt z4)) (n := 4) rfl (by decide) c6
      exact J24 g0 L0 hI hJ k0_0 k0_1
  ·
    have c1 := icc_neq (m := (Int32.toInt (g0 5 4))) (n := 2) rfl (by decide) c1
    exact J24 g0 L0 hI hJ k0_0 k0_1
set_option maxHeartbeats 4000000 in
set_option maxRecDepth 100000 in
theorem sX6_isWord_5_clock (fu : Nat) (hfu : 1180591620717411303424 ≤ fu) (g0 : Nat → Nat → Int32) (L0 : Nat → Nat → Int64) (hI : zI XT g0) (hJ : pJ g0) : Ex (fX6_isWord_5_clock fu g0 L0) (fun (r : Int32) (g1 : Nat → Nat → Int32) (L1 : Nat → Nat → Int64) => zI XT g1 ∧ pJ g1 ∧ g1 2 2 = g0 2 2 ∧ g1 0 13 = g0 0 13 ∧ (0 ≤ (Int32.toInt r) ∧ (Int32.toInt r) ≤ 1)) := by
  have k0_0 : g0 2 2 = g0 2 2 := rfl
  have k0_1 : g0 0 13 = g0 0 13 := rfl
  unfold fX6_isWord_5_clock
  have J24 : ∀ (g : Nat → Nat → Int32) (L : Nat → Nat → Int64), zI XT g → pJ g → g 2 2 = g0 2 2 → g 0 13 = g0 0 13 → Ex (fX6_isWord_5_clock_p24 fu g L) (fun (r : Int32) (g1 : Nat → Nat → Int32) (L1 : Nat → Nat → Int64) => zI XT g1 ∧ pJ g1 ∧ g1 2 2 = g0 2 2 ∧ g1 0 13 = g0 0 13 ∧ (0 ≤ (Int32.toInt r) ∧ (Int32.toInt r) ≤ 1)) := by
    intro g L hI hJ k0_0 k0_1
    unfold fX6_isWord_5_clock_p24
    refine Ex.ckb rfl ?_
    exact Ex.ret ⟨hI, hJ, k0_0, k0_1, (by decide)⟩
  refine Ex.ite (fun c1 => ?_) (fun c1 => ?_)
  ·
    have c1 := icc_eq (m := (Int32.toInt (g0 5 4))) (n := 2) rfl (by decide) c1
    have b2 : 0 ≤ (Int32.toInt (g0 5 3)) ∧ (Int32.toInt (g0 5 3)) ≤ 700 := hI 5 3 0 700 rfl
    have b3 : 0 ≤ (Int32.toInt (g0 5 5)) ∧ (Int32.toInt (g0 5 5)) ≤ 700 := hI 5 5 0 700 rfl
    generalize z4q : ((g0 5 3) - (g0 5 5)) = z4
    have e5 : (Int32.toInt z4) = (Int32.toInt (g0 5 3)) - (Int32.toInt (g0 5 5)) := by rw [← z4q]; exact ic_subc rfl rfl (by omega) (by omega)
    refine Ex.ite (fun c6 => ?_) (fun c6 => ?_)
    ·
      have c6 := icc_eq (m := (Int32.toInt z4)) (n := 5) rfl (by decide) c6
      have lp28 : ∀ (v2 : Int32) (g : Nat → Nat → Int32) (L : Nat → Nat → Int64), (0 ≤ (Int32.toInt v2) ∧ (Int32.toInt v2) ≤ 5) → ((Int32.toInt (g 5 5)) = (Int32.toInt (g0 5 5))) → zI XT g → pJ g → g 2 2 = g0 2 2 → g 0 13 = g0 0 13 → Ex (fX6_isWord_5_clock_l28 fu v2 g L) (fun (r : Int32) (g1 : Nat → Nat → Int32) (L1 : Nat → Nat → Int64) => zI XT g1 ∧ pJ g1 ∧ g1 2 2 = g0 2 2 ∧ g1 0 13 = g0 0 13 ∧ (0 ≤ (Int32.toInt r) ∧ (Int32.toInt r) ≤ 1)) := by
        intro v2 g L hb_v2 hn_0 hI hJ k0_0 k0_1
        unfold fX6_isWord_5_clock_l28
        refine Ex.loop (fun v => ((0 ≤ (Int32.toInt (v.1)) ∧ (Int32.toInt (v.1)) ≤ 5)) ∧ (((Int32.toInt ((v.2.1) 5 5)) = (Int32.toInt (g0 5 5)))) ∧ (zI XT (v.2.1)) ∧ (pJ (v.2.1)) ∧ ((v.2.1) 2 2 = g0 2 2) ∧ ((v.2.1) 0 13 = g0 0 13)) (fun v => 6 - (Int32.toInt (v.1))) (by omega) (by show 6 - (Int32.toInt v2) < (fu : Int); omega) ⟨hb_v2, hn_0, hI, hJ, k0_0, k0_1⟩ (fun k28 v hv ih28 => ?_)
        obtain ⟨v2, g, L⟩ := v
        obtain ⟨hb_v2, hn_0, hI, hJ, k0_0, k0_1⟩ := hv
        have hb_v2 : (0 ≤ (Int32.toInt v2) ∧ (Int32.toInt v2) ≤ 5) := hb_v2
        have hn_0 : ((Int32.toInt (g 5 5)) = (Int32.toInt (g0 5 5))) := hn_0
        have hI : zI XT g := hI
        have hJ : pJ g := hJ
        have k0_0 : g 2 2 = g0 2 2 := k0_0
        have k0_1 : g 0 13 = g0 0 13 := k0_1
        have ih28 : ∀ v' : Int32 × (Nat → Nat → Int32) × (Nat → Nat → Int64), (((0 ≤ (Int32.toInt (v'.1)) ∧ (Int32.toInt (v'.1)) ≤ 5)) ∧ (((Int32.toInt ((v'.2.1) 5 5)) = (Int32.toInt (g0 5 5)))) ∧ (zI XT (v'.2.1)) ∧ (pJ (v'.2.1)) ∧ ((v'.2.1) 2 2 = g0 2 2) ∧ ((v'.2.1) 0 13 = g0 0 13)) → 6 - (Int32.toInt (v'.1)) < 6 - (Int32.toInt v2) → 0 < 6 - (Int32.toInt v2) → Ex (k28 v') (fun (r : Int32) (g1 : Nat → Nat → Int32) (L1 : Nat → Nat → Int64) => zI XT g1 ∧ pJ g1 ∧ g1 2 2 = g0 2 2 ∧ g1 0 13 = g0 0 13 ∧ (0 ≤ (Int32.toInt r) ∧ (Int32.toInt r) ≤ 1)) := ih28
        show Ex (fX6_isWord_5_clock_s28 fu k28 v2 g L) (fun (r : Int32) (g1 : Nat → Nat → Int32) (L1 : Nat → Nat → Int64) => zI XT g1 ∧ pJ g1 ∧ g1 2 2 = g0 2 2 ∧ g1 0 13 = g0 0 13 ∧ (0 ≤ (Int32.toInt r) ∧ (Int32.toInt r) ≤ 1))
        unfold fX6_isWord_5_clock_s28
        refine Ex.ite (fun c7 => ?_) (fun c7 => ?_)
        ·
          have c7 := icc_le (m := 5) (n := (Int32.toInt v2)) (by decide) rfl c7
          refine Ex.ckb rfl ?_
          exact Ex.ret ⟨hI, hJ, k0_0, k0_1, (by decide)⟩
        ·
          have c7 := icc_nle (m := 5) (n := (Int32.toInt v2)) (by decide) rfl c7
          have b8 : 0 ≤ (Int32.toInt (g 5 5)) ∧ (Int32.toInt (g 5 5)) ≤ 700 := hI 5 5 0 700 rfl
          generalize z9q : ((g 5 5) + v2) = z9
          have e10 : (Int32.toInt z9) = (Int32.toInt (g 5 5)) + (Int32.toInt v2) := by rw [← z9q]; exact ic_addc rfl rfl (by omega) (by omega)
          refine Ex.ck (by omega) (by omega) ?_
          have b11 : 0 ≤ (Int32.toInt (g 14 (Int32.toNatClampNeg z9))) ∧ (Int32.toInt (g 14 (Int32.toNatClampNeg z9))) ≤ 255 := hI 14 _ 0 255 rfl
          refine Ex.ck (by omega) (by omega) ?_
          refine Ex.ite (fun c12 => ?_) (fun c12 => ?_)
          ·
            have c12 := icc_eq (m := (Int32.toInt (g 14 (Int32.toNatClampNeg z9)))) (n := (Int32.toInt (sch 14 (Int32.toNatClampNeg v2)))) rfl rfl c12
            generalize z13q : (v2 + 1) = z13
            have e14 : (Int32.toInt z13) = (Int32.toInt v2) + 1 := by rw [← z13q]; exact ic_addc rfl (by decide) (by omega) (by omega)
            exact ih28 (z13, g, L) ⟨(show (0 ≤ (Int32.toInt z13) ∧ (Int32.toInt z13) ≤ 5) from by omega), (show ((Int32.toInt (g 5 5)) = (Int32.toInt (g0 5 5))) from by omega), hI, hJ, k0_0, k0_1⟩ (by show 6 - (Int32.toInt z13) < _; omega) (by omega)
          ·
            have c12 := icc_neq (m := (Int32.toInt (g 14 (Int32.toNatClampNeg z9)))) (n := (Int32.toInt (sch 14 (Int32.toNatClampNeg v2)))) rfl rfl c12
            refine Ex.ckb rfl ?_
            exact Ex.ret ⟨hI, hJ, k0_0, k0_1, (by decide)⟩
      have hc_ : (0 : Int32).toInt = 0 := by decide
      exact lp28 0 g0 L0 (by decide) (by omega) hI hJ k0_0 k0_1
    ·
      have c6 := icc_neq (m := (Int32.toInt z4)) (n := 5) rfl (by decide) c6
      exact J24 g0 L0 hI hJ k0_0 k0_1
  ·
    have c1 := icc_neq (m := (Int32.toInt (g0 5 4))) (n := 2) rfl (by decide) c1
    exact J24 g0 L0 hI hJ k0_0 k0_1
set_option maxHeartbeats 4000000 in
set_option maxRecDepth 100000 in
theorem sX6_isWord_5_room (fu : Nat) (hfu : 1180591620717411303424 ≤ fu) (g0 : Nat → Nat → Int32) (L0 : Nat → Nat → Int64) (hI : zI XT g0) (hJ : pJ g0) : Ex (fX6_isWord_5_room fu g0 L0) (fun (r : Int32) (g1 : Nat → Nat → Int32) (L1 : Nat → Nat → Int64) => zI XT g1 ∧ pJ g1 ∧ g1 2 2 = g0 2 2 ∧ g1 0 13 = g0 0 13 ∧ (0 ≤ (Int32.toInt r) ∧ (Int32.toInt r) ≤ 1)) := by
  have k0_0 : g0 2 2 = g0 2 2 := rfl
  have k0_1 : g0 0 13 = g0 0 13 := rfl
  unfold fX6_isWord_5_room
  have J24 : ∀ (g : Nat → Nat → Int32) (L : Nat → Nat → Int64), zI XT g → pJ g → g 2 2 = g0 2 2 → g 0 13 = g0 0 13 → Ex (fX6_isWord_5_room_p24 fu g L) (fun (r : Int32) (g1 : Nat → Nat → Int32) (L1 : Nat → Nat → Int64) => zI XT g1 ∧ pJ g1 ∧ g1 2 2 = g0 2 2 ∧ g1 0 13 = g0 0 13 ∧ (0 ≤ (Int32.toInt r) ∧ (Int32.toInt r) ≤ 1)) := by
    intro g L hI hJ k0_0 k0_1
    unfold fX6_isWord_5_room_p24
    refine Ex.ckb rfl ?_
    exact Ex.ret ⟨hI, hJ, k0_0, k0_1, (by decide)⟩
  refine Ex.ite (fun c1 => ?_) (fun c1 => ?_)
  ·
    have c1 := icc_eq (m := (Int32.toInt (g0 5 4))) (n := 2) rfl (by decide) c1
    have b2 : 0 ≤ (Int32.toInt (g0 5 3)) ∧ (Int32.toInt (g0 5 3)) ≤ 700 := hI 5 3 0 700 rfl
    have b3 : 0 ≤ (Int32.toInt (g0 5 5)) ∧ (Int32.toInt (g0 5 5)) ≤ 700 := hI 5 5 0 700 rfl
    generalize z4q : ((g0 5 3) - (g0 5 5)) = z4
    have e5 : (Int32.toInt z4) = (Int32.toInt (g0 5 3)) - (Int32.toInt (g0 5 5)) := by rw [← z4q]; exact ic_subc rfl rfl (by omega) (by omega)
    refine Ex.ite (fun c6 => ?_) (fun c6 => ?_)
    ·
      have c6 := icc_eq (m := (Int32.toInt z4)) (n := 4) rfl (by decide) c6
      have lp28 : ∀ (v2 : Int32) (g : Nat → Nat → Int32) (L : Nat → Nat → Int64), (0 ≤ (Int32.toInt v2) ∧ (Int32.toInt v2) ≤ 4) → ((Int32.toInt (g 5 5)) = (Int32.toInt (g0 5 5))) → zI XT g → pJ g → g 2 2 = g0 2 2 → g 0 13 = g0 0 13 → Ex (fX6_isWord_5_room_l28 fu v2 g L) (fun (r : Int32) (g1 : Nat → Nat → Int32) (L1 : Nat → Nat → Int64) => zI XT g1 ∧ pJ g1 ∧ g1 2 2 = g0 2 2 ∧ g1 0 13 = g0 0 13 ∧ (0 ≤ (Int32.toInt r) ∧ (Int32.toInt r) ≤ 1)) := by
        intro v2 g L hb_v2 hn_0 hI hJ k0_0 k0_1
        unfold fX6_isWord_5_room_l28
        refine Ex.loop (fun v => ((0 ≤ (Int32.toInt (v.1)) ∧ (Int32.toInt (v.1)) ≤ 4)) ∧ (((Int32.toInt ((v.2.1) 5 5)) = (Int32.toInt (g0 5 5)))) ∧ (zI XT (v.2.1)) ∧ (pJ (v.2.1)) ∧ ((v.2.1) 2 2 = g0 2 2) ∧ ((v.2.1) 0 13 = g0 0 13)) (fun v => 5 - (Int32.toInt (v.1))) (by omega) (by show 5 - (Int32.toInt v2) < (fu : Int); omega) ⟨hb_v2, hn_0, hI, hJ, k0_0, k0_1⟩ (fun k28 v hv ih28 => ?_)
        obtain ⟨v2, g, L⟩ := v
        obtain ⟨hb_v2, hn_0, hI, hJ, k0_0, k0_1⟩ := hv
        have hb_v2 : (0 ≤ (Int32.toInt v2) ∧ (Int32.toInt v2) ≤ 4) := hb_v2
        have hn_0 : ((Int32.toInt (g 5 5)) = (Int32.toInt (g0 5 5))) := hn_0
        have hI : zI XT g := hI
        have hJ : pJ g := hJ
        have k0_0 : g 2 2 = g0 2 2 := k0_0
        have k0_1 : g 0 13 = g0 0 13 := k0_1
        have ih28 : ∀ v' : Int32 × (Nat → Nat → Int32) × (Nat → Nat → Int64), (((0 ≤ (Int32.toInt (v'.1)) ∧ (Int32.toInt (v'.1)) ≤ 4)) ∧ (((Int32.toInt ((v'.2.1) 5 5)) = (Int32.toInt (g0 5 5)))) ∧ (zI XT (v'.2.1)) ∧ (pJ (v'.2.1)) ∧ ((v'.2.1) 2 2 = g0 2 2) ∧ ((v'.2.1) 0 13 = g0 0 13)) → 5 - (Int32.toInt (v'.1)) < 5 - (Int32.toInt v2) → 0 < 5 - (Int32.toInt v2) → Ex (k28 v') (fun (r : Int32) (g1 : Nat → Nat → Int32) (L1 : Nat → Nat → Int64) => zI XT g1 ∧ pJ g1 ∧ g1 2 2 = g0 2 2 ∧ g1 0 13 = g0 0 13 ∧ (0 ≤ (Int32.toInt r) ∧ (Int32.toInt r) ≤ 1)) := ih28
        show Ex (fX6_isWord_5_room_s28 fu k28 v2 g L) (fun (r : Int32) (g1 : Nat → Nat → Int32) (L1 : Nat → Nat → Int64) => zI XT g1 ∧ pJ g1 ∧ g1 2 2 = g0 2 2 ∧ g1 0 13 = g0 0 13 ∧ (0 ≤ (Int32.toInt r) ∧ (Int32.toInt r) ≤ 1))
        unfold fX6_isWord_5_room_s28
        refine Ex.ite (fun c7 => ?_) (fun c7 => ?_)
        ·
          have c7 := icc_le (m := 4) (n := (Int32.toInt v2)) (by decide) rfl c7
          refine Ex.ckb rfl ?_
          exact Ex.ret ⟨hI, hJ, k0_0, k0_1, (by decide)⟩
        ·
          have c7 := icc_nle (m := 4) (n := (Int32.toInt v2)) (by decide) rfl c7
          have b8 : 0 ≤ (Int32.toInt (g 5 5)) ∧ (Int32.toInt (g 5 5)) ≤ 700 := hI 5 5 0 700 rfl
          generalize z9q : ((g 5 5) + v2) = z9
          have e10 : (Int32.toInt z9) = (Int32.toInt (g 5 5)) + (Int32.toInt v2) := by rw [← z9q]; exact ic_addc rfl rfl (by omega) (by omega)
          refine Ex.ck (by omega) (by omega) ?_
          have b11 : 0 ≤ (Int32.toInt (g 14 (Int32.toNatClampNeg z9))) ∧ (Int32.toInt (g 14 (Int32.toNatClampNeg z9))) ≤ 255 := hI 14 _ 0 255 rfl
          refine Ex.ck (by omega) (by omega) ?_
          refine Ex.ite (fun c12 => ?_) (fun c12 => ?_)
          ·
            have c12 := icc_eq (m := (Int32.toInt (g 14 (Int32.toNatClampNeg z9)))) (n := (Int32.toInt (sch 15 (Int32.toNatClampNeg v2)))) rfl rfl c12
            generalize z13q : (v2 + 1) = z13
            have e14 : (Int32.toInt z13) = (Int32.toInt v2) + 1 := by rw [← z13q]; exact ic_addc rfl (by decide) (by omega) (by omega)
            exact ih28 (z13, g, L) ⟨(show (0 ≤ (Int32.toInt z13) ∧ (Int32.toInt z13) ≤ 4) from by omega), (show ((Int32.toInt (g 5 5)) = (Int32.toInt (g0 5 5))) from by omega), hI, hJ, k0_0, k0_1⟩ (by show 5 - (Int32.toInt z13) < _; omega) (by omega)
          ·
            have c12 := icc_neq (m := (Int32.toInt (g 14 (Int32.toNatClampNeg z9)))) (n := (Int32.toInt (sch 15 (Int32.toNatClampNeg v2)))) rfl rfl c12
            refine Ex.ckb rfl ?_
            exact Ex.ret ⟨hI, hJ, k0_0, k0_1, (by decide)⟩
      have hc_ : (0 : Int32).toInt = 0 := by decide
      exact lp28 0 g0 L0 (by decide) (by omega) hI hJ k0_0 k0_1
    ·
      have c6 := icc_neq (m := (Int32.toInt z4)) (n := 4) rfl (by decide) c6
      exact J24 g0 L0 hI hJ k0_0 k0_1
  ·
    have c1 := icc_neq (m := (Int32.toInt (g0 5 4))) (n := 2) rfl (by decide) c1
    exact J24 g0 L0 hI hJ k0_0 k0_1
set_option maxHeartbeats 4000000 in
set_option maxRecDepth 100000 in
theorem sX6_isWord_5_people (fu : Nat) (hfu : 1180591620717411303424 ≤ fu) (g0 : Nat → Nat → Int32) (L0 : Nat → Nat → Int64) (hI : zI XT g0) (hJ : pJ g0) : Ex (fX6_isWord_5_people fu g0 L0) (fun (r : Int32) (g1 : Nat → Nat → Int32) (L1 : Nat → Nat → Int64) => zI XT g1 ∧ pJ g1 ∧ g1 2 2 = g0 2 2 ∧ g1 0 13 = g0 0 13 ∧ (0 ≤ (Int32.toInt r) ∧ (Int32.toInt r) ≤ 1)) := by
  have k0_0 : g0 2 2 = g0 2 2 := rfl
  have k0_1 : g0 0 13 = g0 0 13 := rfl
  unfold fX6_isWord_5_people
  have J24 : ∀ (g : Nat → Nat → Int32) (L : Nat → Nat → Int64), zI XT g → pJ g → g 2 2 = g0 2 2 → g 0 13 = g0 0 13 → Ex (fX6_isWord_5_people_p24 fu g L) (fun (r : Int32) (g1 : Nat → Nat → Int32) (L1 : Nat → Nat → Int64) => zI XT g1 ∧ pJ g1 ∧ g1 2 2 = g0 2 2 ∧ g1 0 13 = g0 0 13 ∧ (0 ≤ (Int32.toInt r) ∧ (Int32.toInt r) ≤ 1)) := by
    intro g L hI hJ k0_0 k0_1
    unfold fX6_isWord_5_people_p24
    refine Ex.ckb rfl ?_
    exact Ex.ret ⟨hI, hJ, k0_0, k0_1, (by decide)⟩
  refine Ex.ite (fun c1 => ?_) (fun c1 => ?_)
  ·
    have c1 := icc_eq (m := (Int32.toInt (g0 5 4))) (n := 2) rfl (by decide) c1
    have b2 : 0 ≤ (Int32.toInt (g0 5 3)) ∧ (Int32.toInt (g0 5 3)) ≤ 700 := hI 5 3 0 700 rfl
    have b3 : 0 ≤ (Int32.toInt (g0 5 5)) ∧ (Int32.toInt (g0 5 5)) ≤ 700 := hI 5 5 0 700 rfl
    generalize z4q : ((g0 5 3) - (g0 5 5)) = z4
    have e5 : (Int32.toInt z4) = (Int32.toInt (g0 5 3)) - (Int32.toInt (g0 5 5)) := by rw [← z4q]; exact ic_subc rfl rfl (by omega) (by omega)
    refine Ex.ite (fun c6 => ?_) (fun c6 => ?_)
    ·
      have c6 := icc_eq (m := (Int32.toInt z4)) (n := 6) rfl (by decide) c6
      have lp28 : ∀ (v2 : Int32) (g : Nat → Nat → Int32) (L : Nat → Nat → Int64), (0 ≤ (Int32.toInt v2) ∧ (Int32.toInt v2) ≤ 6) → ((Int32.toInt (g 5 5)) = (Int32.toInt (g0 5 5))) → zI XT g → pJ g → g 2 2 = g0 2 2 → g 0 13 = g0 0 13 → Ex (fX6_isWord_5_people_l28 fu v2 g L) (fun (r : Int32) (g1 : Nat → Nat → Int32) (L1 : Nat → Nat → Int64) => zI XT g1 ∧ pJ g1 ∧ g1 2 2 = g0 2 2 ∧ g1 0 13 = g0 0 13 ∧ (0 ≤ (Int32.toInt r) ∧ (Int32.toInt r) ≤ 1)) := by
        intro v2 g L hb_v2 hn_0 hI hJ k0_0 k0_1
        unfold fX6_isWord_5_people_l28
        refine Ex.loop (fun v => ((0 ≤ (Int32.toInt (v.1)) ∧ (Int32.toInt (v.1)) ≤ 6)) ∧ (((Int32.toInt ((v.2.1) 5 5)) = (Int32.toInt (g0 5 5)))) ∧ (zI XT (v.2.1)) ∧ (pJ (v.2.1)) ∧ ((v.2.1) 2 2 = g0 2 2) ∧ ((v.2.1) 0 13 = g0 0 13)) (fun v => 7 - (Int32.toInt (v.1))) (by omega) (by show 7 - (Int32.toInt v2) < (fu : Int); omega) ⟨hb_v2, hn_0, hI, hJ, k0_0, k0_1⟩ (fun k28 v hv ih28 => ?_)
        obtain ⟨v2, g, L⟩ := v
        obtain ⟨hb_v2, hn_0, hI, hJ, k0_0, k0_1⟩ := hv
        have hb_v2 : (0 ≤ (Int32.toInt v2) ∧ (Int32.toInt v2) ≤ 6) := hb_v2
        have hn_0 : ((Int32.toInt (g 5 5)) = (Int32.toInt (g0 5 5))) := hn_0
        have hI : zI XT g := hI
        have hJ : pJ g := hJ
        have k0_0 : g 2 2 = g0 2 2 := k0_0
        have k0_1 : g 0 13 = g0 0 13 := k0_1
        have ih28 : ∀ v' : Int32 × (Nat → Nat → Int32) × (Nat → Nat → Int64), (((0 ≤ (Int32.toInt (v'.1)) ∧ (Int32.toInt (v'.1)) ≤ 6)) ∧ (((Int32.toInt ((v'.2.1) 5 5)) = (Int32.toInt (g0 5 5)))) ∧ (zI XT (v'.2.1)) ∧ (pJ (v'.2.1)) ∧ ((v'.2.1) 2 2 = g0 2 2) ∧ ((v'.2.1) 0 13 = g0 0 13)) → 7 - (Int32.toInt (v'.1)) < 7 - (Int32.toInt v2) → 0 < 7 - (Int32.toInt v2) → Ex (k28 v') (fun (r : Int32) (g1 : Nat → Nat → Int32) (L1 : Nat → Nat → Int64) => zI XT g1 ∧ pJ g1 ∧ g1 2 2 = g0 2 2 ∧ g1 0 13 = g0 0 13 ∧ (0 ≤ (Int32.toInt r) ∧ (Int32.toInt r) ≤ 1)) := ih28
        show Ex (fX6_isWord_5_people_s28 fu k28 v2 g L) (fun (r : Int32) (g1 : Nat → Nat → Int32) (L1 : Nat → Nat → Int64) => zI XT g1 ∧ pJ g1 ∧ g1 2 2 = g0 2 2 ∧ g1 0 13 = g0 0 13 ∧ (0 ≤ (Int32.toInt r) ∧ (Int32.toInt r) ≤ 1))
        unfold fX6_isWord_5_people_s28
        refine Ex.ite (fun c7 => ?_) (fun c7 => ?_)
        ·
          have c7 := icc_le (m := 6) (n := (Int32.toInt v2)) (by decide) rfl c7
          refine Ex.ckb rfl ?_
          exact Ex.ret ⟨hI, hJ, k0_0, k0_1, (by decide)⟩
        ·
          have c7 := icc_nle (m := 6) (n := (Int32.toInt v2)) (by decide) rfl c7
          have b8 : 0 ≤ (Int32.toInt (g 5 5)) ∧ (Int32.toInt (g 5 5)) ≤ 700 := hI 5 5 0 700 rfl
          generalize z9q : ((g 5 5) + v2) = z9
          have e10 : (Int32.toInt z9) = (Int32.toInt (g 5 5)) + (Int32.toInt v2) := by rw [← z9q]; exact ic_addc rfl rfl (by omega) (by omega)
          refine Ex.ck (by omega) (by omega) ?_
          have b11 : 0 ≤ (Int32.toInt (g 14 (Int32.toNatClampNeg z9))) ∧ (Int32.toInt (g 14 (Int32.toNatClampNeg z9))) ≤ 255 := hI 14 _ 0 255 rfl
          refine Ex.ck (by omega) (by omega) ?_
          refine Ex.ite (fun c12 => ?_) (fun c12 => ?_)
          ·
            have c12 := icc_eq (m := (Int32.toInt (g 14 (Int32.toNatClampNeg z9)))) (n := (Int32.toInt (sch 16 (Int32.toNatClampNeg v2)))) rfl rfl c12
            generalize z13q : (v2 + 1) = z13
            have e14 : (Int32.toInt z13) = (Int32.toInt v2) + 1 := by rw [← z13q]; exact ic_addc rfl (by decide) (by omega) (by omega)
            exact ih28 (z13, g, L) ⟨(show (0 ≤ (Int32.toInt z13) ∧ (Int32.toInt z13) ≤ 6) from by omega), (show ((Int32.toInt (g 5 5)) = (Int32.toInt (g0 5 5))) from by omega), hI, hJ, k0_0, k0_1⟩ (by show 7 - (Int32.toInt z13) < _; omega) (by omega)
          ·
            have c12 := icc_neq (m := (Int32.toInt (g 14 (Int32.toNatClampNeg z9)))) (n := (Int32.toInt (sch 16 (Int32.toNatClampNeg v2)))) rfl rfl c12
            refine Ex.ckb rfl ?_
            exact Ex.ret ⟨hI, hJ, k0_0, k0_1, (by decide)⟩
      have hc_ : (0 : Int32).toInt = 0 := by decide
      exact lp28 0 g0 L0 (by decide) (by omega) hI hJ k0_0 k0_1
    ·
      have c6 := icc_neq (m := (Int32.toInt z4)) (n := 6) rfl (by decide) c6
      exact J24 g0 L0 hI hJ k0_0 k0_1
  ·
    have c1 := icc_neq (m := (Int32.toInt (g0 5 4))) (n := 2) rfl (by decide) c1
    exact J24 g0 L0 hI hJ k0_0 k0_1
set_option maxHeartbeats 4000000 in
set_option maxRecDepth 100000 in
theorem sX6_isWord_5_lesson (fu : Nat) (hfu : 1180591620717411303424 ≤ fu) (g0 : Nat → Nat → Int32) (L0 : Nat → Nat → Int64) (hI : zI XT g0) (hJ : pJ g0) : Ex (fX6_isWord_5_lesson fu g0 L0) (fun (r : Int32) (g1 : Nat → Nat → Int32) (L1 : Nat → Nat → Int64) => zI XT g1 ∧ pJ g1 ∧ g1 2 2 = g0 2 2 ∧ g1 0 13 = g0 0 13 ∧ (0 ≤ (Int32.toInt r) ∧ (Int32.toInt r) ≤ 1)) := by
  have k0_0 : g0 2 2 = g0 2 2 := rfl
  have k0_1 : g0 0 13 = g0 0 13 := rfl
  unfold fX6_isWord_5_lesson
  have J24 : ∀ (g : Nat → Nat → Int32) (L : Nat → Nat → Int64), zI XT g → pJ g → g 2 2 = g0 2 2 → g 0 13 = g0 0 13 → Ex (fX6_isWord_5_lesson_p24 fu g L) (fun (r : Int32) (g1 : Nat → Nat → Int32) (L1 : Nat → Nat → Int64) => zI XT g1 ∧ pJ g1 ∧ g1 2 2 = g0 2 2 ∧ g1 0 13 = g0 0 13 ∧ (0 ≤ (Int32.toInt r) ∧ (Int32.toInt r) ≤ 1)) := by
    intro g L hI hJ k0_0 k0_1
    unfold fX6_isWord_5_lesson_p24
    refine Ex.ckb rfl ?_
    exact Ex.ret ⟨hI, hJ, k0_0, k0_1, (by decide)⟩
  refine Ex.ite (fun c1 => ?_) (fun c1 => ?_)
  ·
    have c1 := icc_eq (m := (Int32.toInt (g0 5 4))) (n := 2) rfl (by decide) c1
    have b2 : 0 ≤ (Int32.toInt (g0 5 3)) ∧ (Int32.toInt (g0 5 3)) ≤ 700 := hI 5 3 0 700 rfl
    have b3 : 0 ≤ (Int32.toInt (g0 5 5)) ∧ (Int32.toInt (g0 5 5)) ≤ 700 := hI 5 5 0 700 rfl
    generalize z4q : ((g0 5 3) - (g0 5 5)) = z4
    have e5 : (Int32.toInt z4) = (Int32.toInt (g0 5 3)) - (Int32.toInt (g0 5 5)) := by rw [← z4q]; exact ic_subc rfl rfl (by omega) (by omega)
    refine Ex.ite (fun c6 => ?_) (fun c6 => ?_)
    ·
      have c6 := icc_eq (m := (Int32.toInt z4)) (n := 6) rfl (by decide) c6
      have lp28 : ∀ (v2 : Int32) (g : Nat → Nat → Int32) (L : Nat → Nat → Int64), (0 ≤ (Int32.toInt v2) ∧ (Int32.toInt v2) ≤ 6) → ((Int32.toInt (g 5 5)) = (Int32.toInt (g0 5 5))) → zI XT g → pJ g → g 2 2 = g0 2 2 → g 0 13 = g0 0 13 → Ex (fX6_isWord_5_lesson_l28 fu v2 g L) (fun (r : Int32) (g1 : Nat → Nat → Int32) (L1 : Nat → Nat → Int64) => zI XT g1 ∧ pJ g1 ∧ g1 2 2 = g0 2 2 ∧ g1 0 13 = g0 0 13 ∧ (0 ≤ (Int32.toInt r) ∧ (Int32.toInt r) ≤ 1)) := by
        intro v2 g L hb_v2 hn_0 hI hJ k0_0 k0_1
        unfold fX6_isWord_5_lesson_l28
        refine Ex.loop (fun v => ((0 ≤ (Int32.toInt (v.1)) ∧ (Int32.toInt (v.1)) ≤ 6)) ∧ (((Int32.toInt ((v.2.1) 5 5)) = (Int32.toInt (g0 5 5)))) ∧ (zI XT (v.2.1)) ∧ (pJ (v.2.1)) ∧ ((v.2.1) 2 2 = g0 2 2) ∧ ((v.2.1) 0 13 = g0 0 13)) (fun v => 7 - (Int32.toInt (v.1))) (by omega) (by show 7 - (Int32.toInt v2) < (fu : Int); omega) ⟨hb_v2, hn_0, hI, hJ, k0_0, k0_1⟩ (fun k28 v hv ih28 => ?_)
        obtain ⟨v2, g, L⟩ := v
        obtain ⟨hb_v2, hn_0, hI, hJ, k0_0, k0_1⟩ := hv
        have hb_v2 : (0 ≤ (Int32.toInt v2) ∧ (Int32.toInt v2) ≤ 6) := hb_v2
        have hn_0 : ((Int32.toInt (g 5 5)) = (Int32.toInt (g0 5 5))) := hn_0
        have hI : zI XT g := hI
        have hJ : pJ g := hJ
        have k0_0 : g 2 2 = g0 2 2 := k0_0
        have k0_1 : g 0 13 = g0 0 13 := k0_1
        have ih28 : ∀ v' : Int32 × (Nat → Nat → Int32) × (Nat → Nat → Int64), (((0 ≤ (Int32.toInt (v'.1)) ∧ (Int32.toInt (v'.1)) ≤ 6)) ∧ (((Int32.toInt ((v'.2.1) 5 5)) = (Int32.toInt (g0 5 5)))) ∧ (zI XT (v'.2.1)) ∧ (pJ (v'.2.1)) ∧ ((v'.2.1) 2 2 = g0 2 2) ∧ ((v'.2.1) 0 13 = g0 0 13)) → 7 - (Int32.toInt (v'.1)) < 7 - (Int32.toInt v2) → 0 < 7 - (Int32.toInt v2) → Ex (k28 v') (fun (r : Int32) (g1 : Nat → Nat → Int32) (L1 : Nat → Nat → Int64) => zI XT g1 ∧ pJ g1 ∧ g1 2 2 = g0 2 2 ∧ g1 0 13 = g0 0 13 ∧ (0 ≤ (Int32.toInt r) ∧ (Int32.toInt r) ≤ 1)) := ih28
        show Ex (fX6_isWord_5_lesson_s28 fu k28 v2 g L) (fun (r : Int32) (g1 : Nat → Nat → Int32) (L1 : Nat → Nat → Int64) => zI XT g1 ∧ pJ g1 ∧ g1 2 2 = g0 2 2 ∧ g1 0 13 = g0 0 13 ∧ (0 ≤ (Int32.toInt r) ∧ (Int32.toInt r) ≤ 1))
        unfold fX6_isWord_5_lesson_s28
        refine Ex.ite (fun c7 => ?_) (fun c7 => ?_)
        ·
          have c7 := icc_le (m := 6) (n := (Int32.toInt v2)) (by decide) rfl c7
          refine Ex.ckb rfl ?_
          exact Ex.ret ⟨hI, hJ, k0_0, k0_1, (by decide)⟩
        ·
          have c7 := icc_nle (m := 6) (n := (Int32.toInt v2)) (by decide) rfl c7
          have b8 : 0 ≤ (Int32.toInt (g 5 5)) ∧ (Int32.toInt (g 5 5)) ≤ 700 := hI 5 5 0 700 rfl
          generalize z9q : ((g 5 5) + v2) = z9
          have e10 : (Int32.toInt z9) = (Int32.toInt (g 5 5)) + (Int32.toInt v2) := by rw [← z9q]; exact ic_addc rfl rfl (by omega) (by omega)
          refine Ex.ck (by omega) (by omega) ?_
          have b11 : 0 ≤ (Int32.toInt (g 14 (Int32.toNatClampNeg z9))) ∧ (Int32.toInt (g 14 (Int32.toNatClampNeg z9))) ≤ 255 := hI 14 _ 0 255 rfl
          refine Ex.ck (by omega) (by omega) ?_
          refine Ex.ite (fun c12 => ?_) (fun c12 => ?_)
          ·
            have c12 := icc_eq (m := (Int32.toInt (g 14 (Int32.toNatClampNeg z9)))) (n := (Int32.toInt (sch 0 (Int32.toNatClampNeg v2)))) rfl rfl c12
            generalize z13q : (v2 + 1) = z13
            have e14 : (Int32.toInt z13) = (Int32.toInt v2) + 1 := by rw [← z13q]; exact ic_addc rfl (by decide) (by omega) (by omega)
            exact ih28 (z13, g, L) ⟨(show (0 ≤ (Int32.toInt z13) ∧ (Int32.toInt z13) ≤ 6) from by omega), (show ((Int32.toInt (g 5 5)) = (Int32.toInt (g0 5 5))) from by omega), hI, hJ, k0_0, k0_1⟩ (by show 7 - (Int32.toInt z13) < _; omega) (by omega)
          ·
            have c12 := icc_neq (m := (Int32.toInt (g 14 (Int32.toNatClampNeg z9)))) (n := (Int32.toInt (sch 0 (Int32.toNatClampNeg v2)))) rfl rfl c12
            refine Ex.ckb rfl ?_
            exact Ex.ret ⟨hI, hJ, k0_0, k0_1, (by decide)⟩
      have hc_ : (0 : Int32).toInt = 0 := by decide
      exact lp28 0 g0 L0 (by decide) (by omega) hI hJ k0_0 k0_1
    ·
      have c6 := icc_neq (m := (Int32.toInt z4)) (n := 6) rfl (by decide) c6
      exact J24 g0 L0 hI hJ k0_0 k0_1
  ·
    have c1 := icc_neq (m := (Int32.toInt (g0 5 4))) (n := 2) rfl (by decide) c1
    exact J24 g0 L0 hI hJ k0_0 k0_1
set_option maxHeartbeats 4000000 in
set_option maxRecDepth 100000 in
theorem sX6_valueNow_5 (fu : Nat) (hfu : 1180591620717411303424 ≤ fu) (g0 : Nat → Nat → Int32) (L0 : Nat → Nat → Int64) (hI : zI XT g0) (hJ : pJ g0) : Ex (fX6_valueNow_5 fu g0 L0) (fun (r : Int32) (g1 : Nat → Nat → Int32) (L1 : Nat → Nat → Int64) => zI XT g1 ∧ pJ g1 ∧ g1 2 2 = g0 2 2 ∧ g1 0 13 = g0 0 13 ∧ ((-1) ≤ (Int32.toInt r) ∧ (Int32.toInt r) ≤ 5)) := by
  have k0_0 : g0 2 2 = g0 2 2 := rfl
  have k0_1 : g0 0 13 = g0 0 13 := rfl
  unfold fX6_valueNow_5
  refine Ex.cb (sX6_isWord_5_over fu hfu g0 L0 hI hJ) (fun x1 g2 L3 hq5 => ?_)
  obtain ⟨hI, hJ, kk0, kk1, rb_⟩ := hq5
  have b6 : 0 ≤ (Int32.toInt x1) ∧ (Int32.toInt x1) ≤ 1 := rb_
  have hI : zI XT g2 := hI
  have hJ : pJ g2 := hJ
  have k0_0 : g2 2 2 = g0 2 2 := kk0.trans k0_0
  have k0_1 : g2 0 13 = g0 0 13 := kk1.trans k0_1
  refine Ex.ite (fun c7 => ?_) (fun c7 => ?_)
  ·
    have c7 := icc_eq (m := (Int32.toInt x1)) (n := 0) rfl (by decide) c7
    refine Ex.cb (sX6_isWord_5_late fu hfu g2 L3 hI hJ) (fun x8 g9 L10 hq12 => ?_)
    obtain ⟨hI, hJ, kk0, kk1, rb_⟩ := hq12
    have b13 : 0 ≤ (Int32.toInt x8) ∧ (Int32.toInt x8) ≤ 1 := rb_
    have hI : zI XT g9 := hI
    have hJ : pJ g9 := hJ
    have k0_0 : g9 2 2 = g0 2 2 := kk0.trans k0_0
    have k0_1 : g9 0 13 = g0 0 13 := kk1.trans k0_1
    refine Ex.ite (fun c14 => ?_) (fun c14 => ?_)
    ·
      have c14 := icc_eq (m := (Int32.toInt x8)) (n := 0) rfl (by decide) c14
      refine Ex.cb (sX6_isWord_5_clock fu hfu g9 L10 hI hJ) (fun x15 g16 L17 hq19 => ?_)
      obtain ⟨hI, hJ, kk0, kk1, rb_⟩ := hq19
      have b20 : 0 ≤ (Int32.toInt x15) ∧ (Int32.toInt x15) ≤ 1 := rb_
      have hI : zI XT g16 := hI
      have hJ : pJ g16 := hJ
      have k0_0 : g16 2 2 = g0 2 2 := kk0.trans k0_0
      have k0_1 : g16 0 13 = g0 0 13 := kk1.trans k0_1
      refine Ex.ite (fun c21 => ?_) (fun c21 => ?_)
      ·
        have c21 := icc_eq (m := (Int32.toInt x15)) (n := 0) rfl (by decide) c21
        refine Ex.cb (sX6_isWord_5_room fu hfu g16 L17 hI hJ) (fun x22 g23 L24 hq26 => ?_)
        obtain ⟨hI, hJ, kk0, kk1, rb_⟩ := hq26
        have b27 : 0 ≤ (Int32.toInt x22) ∧ (Int32.toInt x22) ≤ 1 := rb_
        have hI : zI XT g23 := hI
        have hJ : pJ g23 := hJ
        have k0_0 : g23 2 2 = g0 2 2 := kk0.trans k0_0
        have k0_1 : g23 0 13 = g0 0 13 := kk1.trans k0_1
        refine Ex.ite (fun c28 => ?_) (fun c28 => ?_)
        ·
          have c28 := icc_eq (m := (Int32.toInt x22)) (n := 0) rfl (by decide) c28
          refine Ex.cb (sX6_isWord_5_people fu hfu g23 L24 hI hJ) (fun x29 g30 L31 hq33 => ?_)
          obtain ⟨hI, hJ, kk0, kk1, rb_⟩ := hq33
          have b34 : 0 ≤ (Int32.toInt x29) ∧ (Int32.toInt x29) ≤ 1 := rb_
          have hI : zI XT g30 := hI
          have hJ : pJ g30 := hJ
          have k0_0 : g30 2 2 = g0 2 2 := kk0.trans k0_0
          have k0_1 : g30 0 13 = g0 0 13 := kk1.trans k0_1
          refine Ex.ite (fun c35 => ?_) (fun c35 => ?_)
          ·
            have c35 := icc_eq (m := (Int32.toInt x29)) (n := 0) rfl (by decide) c35
            refine Ex.cb (sX6_isWord_5_lesson fu hfu g30 L31 hI hJ) (fun x36 g37 L38 hq40 => ?_)
            obtain ⟨hI, hJ, kk0, kk1, rb_⟩ := hq40
            have b41 : 0 ≤ (Int32.toInt x36) ∧ (Int32.toInt x36) ≤ 1 := rb_
            have hI : zI XT g37 := hI
            have hJ : pJ g37 := hJ
            have k0_0 : g37 2 2 = g0 2 2 := kk0.trans k0_0
            have k0_1 : g37 0 13 = g0 0 13 := kk1.trans k0_1
            have J69 : ∀ (t0 : Int32) (g : Nat → Nat → Int32) (L : Nat → Nat → Int64), ((-1) ≤ (Int32.toInt t0) ∧ (Int32.toInt t0) ≤ 5) → zI XT g → pJ g → g 2 2 = g0 2 2 → g 0 13 = g0 0 13 → Ex (fX6_valueNow_5_p69 fu t0 g L) (fun (r : Int32) (g1 : Nat → Nat → Int32) (L1 : Nat → Nat → Int64) => zI XT g1 ∧ pJ g1 ∧ g1 2 2 = g0 2 2 ∧ g1 0 13 = g0 0 13 ∧ ((-1) ≤ (Int32.toInt r) ∧ (Int32.toInt r) ≤ 5)) := by
              intro t0 g L hb_t0 hI hJ k0_0 k0_1
              unfold fX6_valueNow_5_p69
              exact Ex.ret ⟨hI, hJ, k0_0, k0_1, (by omega)⟩
            refine Ex.ite (fun c42 => ?_) (fun c42 => ?_)
            ·
              have c42 := icc_eq (m := (Int32.toInt x36)) (n := 0) rfl (by decide) c42
              exact J69 (-1) g37 L38 (by decide) hI hJ k0_0 k0_1
            ·
              have c42 := icc_neq (m := (Int32.toInt x36)) (n := 0) rfl (by decide) c42
              exact J69 5 g37 L38 (by decide) hI hJ k0_0 k0_1
          ·
            have c35 := icc_neq (m := (Int32.toInt x29)) (n := 0) rfl (by decide) c35
            exact Ex.ret ⟨hI, hJ, k0_0, k0_1, (by decide)⟩
        ·
          have c28 := icc_neq (m := (Int32.toInt x22)) (n := 0) rfl (by decide) c28
          exact Ex.ret ⟨hI, hJ, k0_0, k0_1, (by decide)⟩
      ·
        have c21 := icc_neq (m := (Int32.toInt x15)) (n := 0) rfl (by decide) c21
        exact Ex.ret ⟨hI, hJ, k0_0, k0_1, (by decide)⟩
    ·
      have c14 := icc_neq (m := (Int32.toInt x8)) (n := 0) rfl (by decide) c14
      exact Ex.ret ⟨hI, hJ, k0_0, k0_1, (by decide)⟩
  ·
    have c7 := icc_neq (m := (Int32.toInt x1)) (n := 0) rfl (by decide) c7
    exact Ex.ret ⟨hI, hJ, k0_0, k0_1, (by decide)⟩
set_option maxHeartbeats 4000000 in
set_option maxRecDepth 100000 in
theorem sX6_readPart_5_L1 (fu : Nat) (hfu : 1180591620717411303424 ≤ fu) (p1 : Int32) (g0 : Nat → Nat → Int32) (L0 : Nat → Nat → Int64) (hI : zI XT g0) (hJ : pJ g0) (hp1 : (6 ≤ (Int32.toInt p1) ∧ (Int32.toInt p1) ≤ 6)) : Ex (fX6_readPart_5 fu (fX6_readExpr_5 fu 0) p1 g0 L0) (fun (r : Unit) (g1 : Nat → Nat → Int32) (L1 : Nat → Nat → Int64) => zI XT g1 ∧ pJ g1 ∧ g1 2 2 = g0 2 2 ∧ g1 0 13 = g0 0 13) := by
  have k0_0 : g0 2 2 = g0 2 2 := rfl
  have k0_1 : g0 0 13 = g0 0 13 := rfl
  unfold fX6_readPart_5
  have J111 : ∀ (g : Nat → Nat → Int32) (L : Nat → Nat → Int64), zI XT g → pJ g → g 2 2 = g0 2 2 → g 0 13 = g0 0 13 → Ex (fX6_readPart_5_p111 fu (fX6_readExpr_5 fu 0) g L) (fun (r : Unit) (g1 : Nat → Nat → Int32) (L1 : Nat → Nat → Int64) => zI XT g1 ∧ pJ g1 ∧ g1 2 2 = g0 2 2 ∧ g1 0 13 = g0 0 13) := by
    intro g L hI hJ k0_0 k0_1
    unfold fX6_readPart_5_p111
    exact Ex.ret ⟨hI, hJ, k0_0, k0_1⟩
  refine Ex.ite (fun c1 => ?_) (fun c1 => ?_)
  ·
    have c1 := icc_eq (m := (Int32.toInt (g0 5 4))) (n := 1) rfl (by decide) c1
    refine Ex.cb (sX6_readNumber_5 fu hfu 0 9999 g0 L0 hI hJ) (fun x2 g3 L4 hq6 => ?_)
    obtain ⟨hI, hJ, kk0, kk1, rb_⟩ := hq6
    have b7 : 0 ≤ (Int32.toInt x2) ∧ (Int32.toInt x2) ≤ 9999 := rb_
    have hI : zI XT g3 := hI
    have hJ : pJ g3 := hJ
    have k0_0 : g3 2 2 = g0 2 2 := kk0.trans k0_0
    have k0_1 : g3 0 13 = g0 0 13 := kk1.trans k0_1
    refine Ex.cb (sX8_add_4 fu hfu x2 g3 L4 hI hJ) (fun x8 g9 L10 hq12 => ?_)
    obtain ⟨hI, hJ, kk0, kk1⟩ := hq12
    have hI : zI XT g9 := hI
    have hJ : pJ g9 := hJ
    have k0_0 : g9 2 2 = g0 2 2 := kk0.trans k0_0
    have k0_1 : g9 0 13 = g0 0 13 := kk1.trans k0_1
    exact J111 g9 L10 hI hJ k0_0 k0_1
  ·
    have c1 := icc_neq (m := (Int32.toInt (g0 5 4))) (n := 1) rfl (by decide) c1
    refine Ex.ite (fun c13 => ?_) (fun c13 => ?_)
    ·
      have c13 := icc_eq (m := (Int32.toInt (g0 5 4))) (n := 2) rfl (by decide) c13
      refine Ex.cb (sX6_valueNow_5 fu hfu g0 L0 hI hJ) (fun x14 g15 L16 hq18 => ?_)
      obtain ⟨hI, hJ, kk0, kk1, rb_⟩ := hq18
      have b19 : (-1) ≤ (Int32.toInt x14) ∧ (Int32.toInt x14) ≤ 5 := rb_
      have hI : zI XT g15 := hI
      have hJ : pJ g15 := hJ
      have k0_0 : g15 2 2 = g0 2 2 := kk0.trans k0_0
      have k0_1 : g15 0 13 = g0 0 13 := kk1.trans k0_1
      have J52 : ∀ (v2 : Int32) (g : Nat → Nat → Int32) (L : Nat → Nat → Int64), ((-1) ≤ (Int32.toInt v2) ∧ (Int32.toInt v2) ≤ 5) → zI XT g → pJ g → g 2 2 = g0 2 2 → g 0 13 = g0 0 13 → Ex (fX6_readPart_5_p52 fu (fX6_readExpr_5 fu 0) v2 g L) (fun (r : Unit) (g1 : Nat → Nat → Int32) (L1 : Nat → Nat → Int64) => zI XT g1 ∧ pJ g1 ∧ g1 2 2 = g0 2 2 ∧ g1 0 13 = g0 0 13) := by
        intro v2 g L hb_v2 hI hJ k0_0 k0_1
        unfold fX6_readPart_5_p52
        generalize z20q : ((-1) - v2) = z20
        have e21 : (Int32.toInt z20) = (-1) - (Int32.toInt v2) := by rw [← z20q]; exact ic_subc (by decide) rfl (by omega) (by omega)
        refine Ex.cb (sX8_add_4 fu hfu z20 g L hI hJ) (fun x22 g23 L24 hq26 => ?_)
        obtain ⟨hI, hJ, kk0, kk1⟩ := hq26
        have hI : zI XT g23 := hI
        have hJ : pJ g23 := hJ
        have k0_0 : g23 2 2 = g0 2 2 := kk0.trans k0_0
        have k0_1 : g23 0 13 = g0 0 13 := kk1.trans k0_1
        refine Ex.cb (sX6_advance_5 fu hfu g23 L24 hI hJ) (fun x27 g28 L29 hq31 => ?_)
        obtain ⟨hI, hJ, kk0, kk1⟩ := hq31
        have hI : zI XT g28 := hI
        have hJ : pJ g28 := hJ
        have k0_0 : g28 2 2 = g0 2 2 := kk0.trans k0_0
        have k0_1 : g28 0 13 = g0 0 13 := kk1.trans k0_1
        exact J111 g28 L29 hI hJ k0_0 k0_1
      refine Ex.ite (fun c32 => ?_) (fun c32 => ?_)
      ·
        have c32 := icc_eq (m := (Int32.toInt x14)) (n := (-1)) rfl (by decide) c32
        refine Ex.cb (sX6_refuse_5 fu hfu 3 g15 L16 hI hJ) (fun x33 g34 L35 hq37 => ?_)
        obtain ⟨hI, hJ, kk0, kk1⟩ := hq37
        have hI : zI XT g34 := hI
        have hJ : pJ g34 := hJ
        have k0_0 : g34 2 2 = g0 2 2 := kk0.trans k0_0
        have k0_1 : g34 0 13 = g0 0 13 := kk1.trans k0_1
        exact J52 x14 g34 L35 (by omega) hI hJ k0_0 k0_1
      ·
        have c32 := icc_neq (m := (Int32.toInt x14)) (n := (-1)) rfl (by decide) c32
        exact J52 x14 g15 L16 (by omega) hI hJ k0_0 k0_1
    ·
      have c13 := icc_neq (m := (Int32.toInt (g0 5 4))) (n := 2) rfl (by decide) c13
      refine Ex.cb (sX6_isSignNow_5 fu hfu 40 g0 L0 hI hJ) (fun x38 g39 L40 hq42 => ?_)
      obtain ⟨hI, hJ, kk0, kk1, rb_⟩ := hq42
      have b43 : 0 ≤ (Int32.toInt x38) ∧ (Int32.toInt x38) ≤ 1 := rb_
      have hI : zI XT g39 := hI
      have hJ : pJ g39 := hJ
      have k0_0 : g39 2 2 = g0 2 2 := kk0.trans k0_0
      have k0_1 : g39 0 13 = g0 0 13 := kk1.trans k0_1
      have J106 : ∀ (g : Nat → Nat → Int32) (L : Nat → Nat → Int64), zI XT g → pJ g → g 2 2 = g0 2 2 → g 0 13 = g0 0 13 → Ex (fX6_readPart_5_p106 fu (fX6_readExpr_5 fu 0) g L) (fun (r : Unit) (g1 : Nat → Nat → Int32) (L1 : Nat → Nat → Int64) => zI XT g1 ∧ pJ g1 ∧ g1 2 2 = g0 2 2 ∧ g1 0 13 = g0 0 13) := by
        intro g L hI hJ k0_0 k0_1
        unfold fX6_readPart_5_p106
        refine Ex.cb (sX6_refuse_5 fu hfu 1 g L hI hJ) (fun x44 g45 L46 hq48 => ?_)
        obtain ⟨hI, hJ, kk0, kk1⟩ := hq48
        have hI : zI XT g45 := hI
        have hJ : pJ g45 := hJ
        have k0_0 : g45 2 2 = g0 2 2 := kk0.trans k0_0
        have k0_1 : g45 0 13 = g0 0 13 := kk1.trans k0_1
        exact J111 g45 L46 hI hJ k0_0 k0_1
      refine Ex.ite (fun c49 => ?_) (fun c49 => ?_)
      ·
        have c49 := icc_eq (m := (Int32.toInt x38)) (n := 0) rfl (by decide) c49
        exact J106 g39 L40 hI hJ k0_0 k0_1
      ·
        have c49 := icc_neq (m := (Int32.toInt x38)) (n := 0) rfl (by decide) c49
        refine Ex.ite (fun c50 => ?_) (fun c50 => ?_)
        ·
          have c50 := icc_lt (m := 5) (n := (Int32.toInt p1)) (by decide) rfl c50
          exact J106 g39 L40 hI hJ k0_0 k0_1
        ·
          have c50 := icc_nlt (m := 5) (n := (Int32.toInt p1)) (by decide) rfl c50
          omega
set_option maxHeartbeats 4000000 in
set_option maxRecDepth 100000 in
theorem sX6_readProduct_5_L1 (fu : Nat) (hfu : 1180591620717411303424 ≤ fu) (p1 : Int32) (g0 : Nat → Nat → Int32) (L0 : Nat → Nat → Int64) (hI : zI XT g0) (hJ : pJ g0) (hp1 : (6 ≤ (Int32.toInt p1) ∧ (Int32.toInt p1) ≤ 6)) : Ex (fX6_readProduct_5 fu (fX6_readExpr_5 fu 0) p1 g0 L0) (fun (r : Unit) (g1 : Nat → Nat → Int32) (L1 : Nat → Nat → Int64) => zI XT g1 ∧ pJ g1 ∧ g1 2 2 = g0 2 2 ∧ g1 0 13 = g0 0 13) := by
  have k0_0 : g0 2 2 = g0 2 2 := rfl
  have k0_1 : g0 0 13 = g0 0 13 := rfl
  unfold fX6_readProduct_5
  refine Ex.cb (sX6_readPart_5_L1 fu hfu p1 g0 L0 hI hJ (by omega)) (fun x1 g2 L3 hq5 => ?_)
  obtain ⟨hI, hJ, kk0, kk1⟩ := hq5
  have hI : zI XT g2 := hI
  have hJ : pJ g2 := hJ
  have k0_0 : g2 2 2 = g0 2 2 := kk0.trans k0_0
  have k0_1 : g2 0 13 = g0 0 13 := kk1.trans k0_1
  have lp7 : ∀ (v1 : Int32) (v2 : Int32) (g : Nat → Nat → Int32) (L : Nat → Nat → Int64), (6 ≤ (Int32.toInt v1) ∧ (Int32.toInt v1) ≤ 6) → (0 ≤ (Int32.toInt v2) ∧ (Int32.toInt v2) ≤ 700) → zI XT g → pJ g → g 2 2 = g0 2 2 → g 0 13 = g0 0 13 → Ex (fX6_readProduct_5_l7 fu (fX6_readExpr_5 fu 0) v1 v2 g L) (fun (r : Unit) (g1 : Nat → Nat → Int32) (L1 : Nat → Nat → Int64) => zI XT g1 ∧ pJ g1 ∧ g1 2 2 = g0 2 2 ∧ g1 0 13 = g0 0 13) := by
    intro v1 v2 g L hb_v1 hb_v2 hI hJ k0_0 k0_1
    unfold fX6_readProduct_5_l7
    refine Ex.loop (fun v => ((6 ≤ (Int32.toInt v1) ∧ (Int32.toInt v1) ≤ 6)) ∧ ((0 ≤ (Int32.toInt (v.1)) ∧ (Int32.toInt (v.1)) ≤ 700)) ∧ (zI XT (v.2.1)) ∧ (pJ (v.2.1)) ∧ ((v.2.1) 2 2 = g0 2 2) ∧ ((v.2.1) 0 13 = g0 0 13)) (fun v => 701 - (Int32.toInt (v.1))) (by omega) (by show 701 - (Int32.toInt v2) < (fu : Int); omega) ⟨hb_v1, hb_v2, hI, hJ, k0_0, k0_1⟩ (fun k7 v hv ih7 => ?_)
    obtain ⟨v2, g, L⟩ := v
    obtain ⟨hb_v1, hb_v2, hI, hJ, k0_0, k0_1⟩ := hv
    have hb_v1 : (6 ≤ (Int32.toInt v1) ∧ (Int32.toInt v1) ≤ 6) := hb_v1
    have hb_v2 : (0 ≤ (Int32.toInt v2) ∧ (Int32.toInt v2) ≤ 700) := hb_v2
    have hI : zI XT g := hI
    have hJ : pJ g := hJ
    have k0_0 : g 2 2 = g0 2 2 := k0_0
    have k0_1 : g 0 13 = g0 0 13 := k0_1
    have ih7 : ∀ v' : Int32 × (Nat → Nat → Int32) × (Nat → Nat → Int64), (((6 ≤ (Int32.toInt v1) ∧ (Int32.toInt v1) ≤ 6)) ∧ ((0 ≤ (Int32.toInt (v'.1)) ∧ (Int32.toInt (v'.1)) ≤ 700)) ∧ (zI XT (v'.2.1)) ∧ (pJ (v'.2.1)) ∧ ((v'.2.1) 2 2 = g0 2 2) ∧ ((v'.2.1) 0 13 = g0 0 13)) → 701 - (Int32.toInt (v'.1)) < 701 - (Int32.toInt v2) → 0 < 701 - (Int32.toInt v2) → Ex (k7 v') (fun (r : Unit) (g1 : Nat → Nat → Int32) (L1 : Nat → Nat → Int64) => zI XT g1 ∧ pJ g1 ∧ g1 2 2 = g0 2 2 ∧ g1 0 13 = g0 0 13) := ih7
    show Ex (fX6_readProduct_5_s7 fu (fX6_readExpr_5 fu 0) v1 k7 v2 g L) (fun (r : Unit) (g1 : Nat → Nat → Int32) (L1 : Nat → Nat → Int64) => zI XT g1 ∧ pJ g1 ∧ g1 2 2 = g0 2 2 ∧ g1 0 13 = g0 0 13)
    unfold fX6_readProduct_5_s7
    have J75 : ∀ (g : Nat → Nat → Int32) (L : Nat → Nat → Int64), zI XT g → pJ g → g 2 2 = g0 2 2 → g 0 13 = g0 0 13 → Ex (fX6_readProduct_5_p75 fu (fX6_readExpr_5 fu 0) g L) (fun (r : Unit) (g1 : Nat → Nat → Int32) (L1 : Nat → Nat → Int64) => zI XT g1 ∧ pJ g1 ∧ g1 2 2 = g0 2 2 ∧ g1 0 13 = g0 0 13) := by
      intro g L hI hJ k0_0 k0_1
      unfold fX6_readProduct_5_p75
      exact Ex.ret ⟨hI, hJ, k0_0, k0_1⟩
    refine Ex.ite (fun c6 => ?_) (fun c6 => ?_)
    ·
      have c6 := icc_le (m := 700) (n := (Int32.toInt v2)) (by decide) rfl c6
      exact J75 g L hI hJ k0_0 k0_1
    ·
      have c6 := icc_nle (m := 700) (n := (Int32.toInt v2)) (by decide) rfl c6
      refine Ex.cb (sX6_isSignNow_5 fu hfu 42 g L hI hJ) (fun x7 g8 L9 hq11 => ?_)
      obtain ⟨hI, hJ, kk0, kk1, rb_⟩ := hq11
      have b12 : 0 ≤ (Int32.toInt x7) ∧ (Int32.toInt x7) ≤ 1 := rb_
      have hI : zI XT g8 := hI
      have hJ : pJ g8 := hJ
      have k0_0 : g8 2 2 = g0 2 2 := kk0.trans k0_0
      have k0_1 : g8 0 13 = g0 0 13 := kk1.trans k0_1
      have J32 : ∀ (g : Nat → Nat → Int32) (L : Nat → Nat → Int64), (6 ≤ (Int32.toInt v1) ∧ (Int32.toInt v1) ≤ 6) → (0 ≤ (Int32.toInt v2) ∧ (Int32.toInt v2) ≤ 699) → zI XT g → pJ g → g 2 2 = g0 2 2 → g 0 13 = g0 0 13 → Ex (fX6_readProduct_5_p32 fu (fX6_readExpr_5 fu 0) k7 v1 v2 g L) (fun (r : Unit) (g1 : Nat → Nat → Int32) (L1 : Nat → Nat → Int64) => zI XT g1 ∧ pJ g1 ∧ g1 2 2 = g0 2 2 ∧ g1 0 13 = g0 0 13) := by
        intro g L hb_v1 hb_v2 hI hJ k0_0 k0_1
        unfold fX6_readProduct_5_p32
        refine Ex.cb (sX6_isSignNow_5 fu hfu 42 g L hI hJ) (fun x13 g14 L15 hq17 => ?_)
        obtain ⟨hI, hJ, kk0, kk1, rb_⟩ := hq17
        have b18 : 0 ≤ (Int32.toInt x13) ∧ (Int32.toInt x13) ≤ 1 := rb_
        have hI : zI XT g14 := hI
        have hJ : pJ g14 := hJ
        have k0_0 : g14 2 2 = g0 2 2 := kk0.trans k0_0
        have k0_1 : g14 0 13 = g0 0 13 := kk1.trans k0_1
        have J48 : ∀ (t0 : Int32) (g : Nat → Nat → Int32) (L : Nat → Nat → Int64), (6 ≤ (Int32.toInt v1) ∧ (Int32.toInt v1) ≤ 6) → (0 ≤ (Int32.toInt v2) ∧ (Int32.toInt v2) ≤ 699) → ((-10) ≤ (Int32.toInt t0) ∧ (Int32.toInt t0) ≤ (-9)) → zI XT g → pJ g → g 2 2 = g0 2 2 → g 0 13 = g0 0 13 → Ex (fX6_readProduct_5_p48 fu (fX6_readExpr_5 fu 0) k7 v1 v2 t0 g L) (fun (r : Unit) (g1 : Nat → Nat → Int32) (L1 : Nat → Nat → Int64) => zI XT g1 ∧ pJ g1 ∧ g1 2 2 = g0 2 2 ∧ g1 0 13 = g0 0 13) := by
          intro t0 g L hb_v1 hb_v2 hb_t0 hI hJ k0_0 k0_1
          unfold fX6_readProduct_5_p48
          refine Ex.cb (sX6_advance_5 fu hfu g L hI hJ) (fun x19 g20 L21 hq23 => ?_)
          obtain ⟨hI, hJ, kk0, kk1⟩ := hq23
          have hI : zI XT g20 := hI
          have hJ : pJ g20 := hJ
          have k0_0 : g20 2 2 = g0 2 2 := kk0.trans k0_0
          have k0_1 : g20 0 13 = g0 0 13 := kk1.trans k0_1
          refine Ex.cb (sX6_readPart_5_L1 fu hfu v1 g20 L21 hI hJ (by omega)) (fun x24 g25 L26 hq28 => ?_)
          obtain ⟨hI, hJ, kk0, kk1⟩ := hq28
          have hI : zI XT g25 := hI
          have hJ : pJ g25 := hJ
          have k0_0 : g25 2 2 = g0 2 2 := kk0.trans k0_0
          have k0_1 : g25 0 13 = g0 0 13 := kk1.trans k0_1
          refine Ex.cb (sX8_add_4 fu hfu t0 g25 L26 hI hJ) (fun x29 g30 L31 hq33 => ?_)
          obtain ⟨hI, hJ, kk0, kk1⟩ := hq33
          have hI : zI XT g30 := hI
          have hJ : pJ g30 := hJ
          have k0_0 : g30 2 2 = g0 2 2 := kk0.trans k0_0
          have k0_1 : g30 0 13 = g0 0 13 := kk1.trans k0_1
          generalize z34q : (v2 + 1) = z34
          have e35 : (Int32.toInt z34) = (Int32.toInt v2) + 1 := by rw [← z34q]; exact ic_addc rfl (by decide) (by omega) (by omega)
          exact ih7 (z34, g30, L31) ⟨(show (6 ≤ (Int32.toInt v1) ∧ (Int32.toInt v1) ≤ 6) from by omega), (show (0 ≤ (Int32.toInt z34) ∧ (Int32.toInt z34) ≤ 700) from by omega), hI, hJ, k0_0, k0_1⟩ (by show 701 - (Int32.toInt z34) < _; omega) (by omega)
        refine Ex.ite (fun c36 => ?_) (fun c36 => ?_)
        ·
          have c36 := icc_eq (m := (Int32.toInt x13)) (n := 0) rfl (by decide) c36
          exact J48 (-10) g14 L15 (by omega) (by omega) (by decide) hI hJ k0_0 k0_1
        ·
          have c36 := icc_neq (m := (Int32.toInt x13)) (n := 0) rfl (by decide) c36
          exact J48 (-9) g14 L15 (by omega) (by omega) (by decide) hI hJ k0_0 k0_1
      refine Ex.ite (fun c37 => ?_) (fun c37 => ?_)
      ·
        have c37 := icc_eq (m := (Int32.toInt x7)) (n := 0) rfl (by decide) c37
        refine Ex.cb (sX6_isSignNow_5 fu hfu 47 g8 L9 hI hJ) (fun x38 g39 L40 hq42 => ?_)
        obtain ⟨hI, hJ, kk0, kk1, rb_⟩ := hq42
        have b43 : 0 ≤ (Int32.toInt x38) ∧ (Int32.toInt x38) ≤ 1 := rb_
        have hI : zI XT g39 := hI
        have hJ : pJ g39 := hJ
        have k0_0 : g39 2 2 = g0 2 2 := kk0.trans k0_0
        have k0_1 : g39 0 13 = g0 0 13 := kk1.trans k0_1
        refine Ex.ite (fun c44 => ?_) (fun c44 => ?_)
        ·
          have c44 := icc_eq (m := (Int32.toInt x38)) (n := 0) rfl (by decide) c44
          exact J75 g39 L40 hI hJ k0_0 k0_1
        ·
          have c44 := icc_neq (m := (Int32.toInt x38)) (n := 0) rfl (by decide) c44
          exact J32 g39 L40 (by omega) (by omega) hI hJ k0_0 k0_1
      ·
        have c37 := icc_neq (m := (Int32.toInt x7)) (n := 0) rfl (by decide) c37
        exact J32 g8 L9 (by omega) (by omega) hI hJ k0_0 k0_1
  exact lp7 p1 0 g2 L3 (by omega) (by decide) hI hJ k0_0 k0_1
set_option maxHeartbeats 4000000 in
set_option maxRecDepth 100000 in
theorem sX6_readSum_5_L1 (fu : Nat) (hfu : 1180591620717411303424 ≤ fu) (p1 : Int32) (g0 : Nat → Nat → Int32) (L0 : Nat → Nat → Int64) (hI : zI XT g0) (hJ : pJ g0) (hp1 : (6 ≤ (Int32.toInt p1) ∧ (Int32.toInt p1) ≤ 6)) : Ex (fX6_readSum_5 fu (fX6_readExpr_5 fu 0) p1 g0 L0) (fun (r : Unit) (g1 : Nat → Nat → Int32) (L1 : Nat → Nat → Int64) => zI XT g1 ∧ pJ g1 ∧ g1 2 2 = g0 2 2 ∧ g1 0 13 = g0 0 13) := by
  have k0_0 : g0 2 2 = g0 2 2 := rfl
  have k0_1 : g0 0 13 = g0 0 13 := rfl
  unfold fX6_readSum_5
  refine Ex.cb (sX6_readProduct_5_L1 fu hfu p1 g0 L0 hI hJ (by omega)) (fun x1 g2 L3 hq5 => ?_)
  obtain ⟨hI, hJ, kk0, kk1⟩ := hq5
  have hI : zI XT g2 := hI
  have hJ : pJ g2 := hJ
  have k0_0 : g2 2 2 = g0 2 2 := kk0.trans k0_0
  have k0_1 : g2 0 13 = g0 0 13 := kk1.trans k0_1
  have lp7 : ∀ (v1 : Int32) (v2 : Int32) (g : Nat → Nat → Int32) (L : Nat → Nat → Int64), (6 ≤ (Int32.toInt v1) ∧ (Int32.toInt v1) ≤ 6) → (0 ≤ (Int32.toInt v2) ∧ (Int32.toInt v2) ≤ 700) → zI XT g → pJ g → g 2 2 = g0 2 2 → g 0 13 = g0 0 13 → Ex (fX6_readSum_5_l7 fu (fX6_readExpr_5 fu 0) v1 v2 g L) (fun (r : Unit) (g1 : Nat → Nat → Int32) (L1 : Nat → Nat → Int64) => zI XT g1 ∧ pJ g1 ∧ g1 2 2 = g0 2 2 ∧ g1 0 13 = g0 0 13) := by
    intro v1 v2 g L hb_v1 hb_v2 hI hJ k0_0 k0_1
    unfold fX6_readSum_5_l7
    refine Ex.loop (fun v => ((6 ≤ (Int32.toInt v1) ∧ (Int32.toInt v1) ≤ 6)) ∧ ((0 ≤ (Int32.toInt (v.1)) ∧ (Int32.toInt (v.1)) ≤ 700)) ∧ (zI XT (v.2.1)) ∧ (pJ (v.2.1)) ∧ ((v.2.1) 2 2 = g0 2 2) ∧ ((v.2.1) 0 13 = g0 0 13)) (fun v => 701 - (Int32.toInt (v.1))) (by omega) (by show 701 - (Int32.toInt v2) < (fu : Int); omega) ⟨hb_v1, hb_v2, hI, hJ, k0_0, k0_1⟩ (fun k7 v hv ih7 => ?_)
    obtain ⟨v2, g, L⟩ := v
    obtain ⟨hb_v1, hb_v2, hI, hJ, k0_0, k0_1⟩ := hv
    have hb_v1 : (6 ≤ (Int32.toInt v1) ∧ (Int32.toInt v1) ≤ 6) := hb_v1
    have hb_v2 : (0 ≤ (Int32.toInt v2) ∧ (Int32.toInt v2) ≤ 700) := hb_v2
    have hI : zI XT g := hI
    have hJ : pJ g := hJ
    have k0_0 : g 2 2 = g0 2 2 := k0_0
    have k0_1 : g 0 13 = g0 0 13 := k0_1
    have ih7 : ∀ v' : Int32 × (Nat → Nat → Int32) × (Nat → Nat → Int64), (((6 ≤ (Int32.toInt v1) ∧ (Int32.toInt v1) ≤ 6)) ∧ ((0 ≤ (Int32.toInt (v'.1)) ∧ (Int32.toInt (v'.1)) ≤ 700)) ∧ (zI XT (v'.2.1)) ∧ (pJ (v'.2.1)) ∧ ((v'.2.1) 2 2 = g0 2 2) ∧ ((v'.2.1) 0 13 = g0 0 13)) → 701 - (Int32.toInt (v'.1)) < 701 - (Int32.toInt v2) → 0 < 701 - (Int32.toInt v2) → Ex (k7 v') (fun (r : Unit) (g1 : Nat → Nat → Int32) (L1 : Nat → Nat → Int64) => zI XT g1 ∧ pJ g1 ∧ g1 2 2 = g0 2 2 ∧ g1 0 13 = g0 0 13) := ih7
    show Ex (fX6_readSum_5_s7 fu (fX6_readExpr_5 fu 0) v1 k7 v2 g L) (fun (r : Unit) (g1 : Nat → Nat → Int32) (L1 : Nat → Nat → Int64) => zI XT g1 ∧ pJ g1 ∧ g1 2 2 = g0 2 2 ∧ g1 0 13 = g0 0 13)
    unfold fX6_readSum_5_s7
    have J75 : ∀ (g : Nat → Nat → Int32) (L : Nat → Nat → Int64), zI XT g → pJ g → g 2 2 = g0 2 2 → g 0 13 = g0 0 13 → Ex (fX6_readSum_5_p75 fu (fX6_readExpr_5 fu 0) g L) (fun (r : Unit) (g1 : Nat → Nat → Int32) (L1 : Nat → Nat → Int64) => zI XT g1 ∧ pJ g1 ∧ g1 2 2 = g0 2 2 ∧ g1 0 13 = g0 0 13) := by
      intro g L hI hJ k0_0 k0_1
      unfold fX6_readSum_5_p75
      exact Ex.ret ⟨hI, hJ, k0_0, k0_1⟩
    refine Ex.ite (fun c6 => ?_) (fun c6 => ?_)
    ·
      have c6 := icc_le (m := 700) (n := (Int32.toInt v2)) (by decide) rfl c6
      exact J75 g L hI hJ k0_0 k0_1
    ·
      have c6 := icc_nle (m := 700) (n := (Int32.toInt v2)) (by decide) rfl c6
      refine Ex.cb (sX6_isSignNow_5 fu hfu 43 g L hI hJ) (fun x7 g8 L9 hq11 => ?_)
      obtain ⟨hI, hJ, kk0, kk1, rb_⟩ := hq11
      have b12 : 0 ≤ (Int32.toInt x7) ∧ (Int32.toInt x7) ≤ 1 := rb_
      have hI : zI XT g8 := hI
      have hJ : pJ g8 := hJ
      have k0_0 : g8 2 2 = g0 2 2 := kk0.trans k0_0
      have k0_1 : g8 0 13 = g0 0 13 := kk1.trans k0_1
      have J32 : ∀ (g : Nat → Nat → Int32) (L : Nat → Nat → Int64), (6 ≤ (Int32.toInt v1) ∧ (Int32.toInt v1) ≤ 6) → (0 ≤ (Int32.toInt v2) ∧ (Int32.toInt v2) ≤ 699) → zI XT g → pJ g → g 2 2 = g0 2 2 → g 0 13 = g0 0 13 → Ex (fX6_readSum_5_p32 fu (fX6_readExpr_5 fu 0) k7 v1 v2 g L) (fun (r : Unit) (g1 : Nat → Nat → Int32) (L1 : Nat → Nat → Int64) => zI XT g1 ∧ pJ g1 ∧ g1 2 2 = g0 2 2 ∧ g1 0 13 = g0 0 13) := by
        intro g L hb_v1 hb_v2 hI hJ k0_0 k0_1
        unfold fX6_readSum_5_p32
        refine Ex.cb (sX6_isSignNow_5 fu hfu 43 g L hI hJ) (fun x13 g14 L15 hq17 => ?_)
        obtain ⟨hI, hJ, kk0, kk1, rb_⟩ := hq17
        have b18 : 0 ≤ (Int32.toInt x13) ∧ (Int32.toInt x13) ≤ 1 := rb_
        have hI : zI XT g14 := hI
        have hJ : pJ g14 := hJ
        have k0_0 : g14 2 2 = g0 2 2 := kk0.trans k0_0
        have k0_1 : g14 0 13 = g0 0 13 := kk1.trans k0_1
        have J48 : ∀ (t0 : Int32) (g : Nat → Nat → Int32) (L : Nat → Nat → Int64), (6 ≤ (Int32.toInt v1) ∧ (Int32.toInt v1) ≤ 6) → (0 ≤ (Int32.toInt v2) ∧ (Int32.toInt v2) ≤ 699) → ((-8) ≤ (Int32.toInt t0) ∧ (Int32.toInt t0) ≤ (-7)) → zI XT g → pJ g → g 2 2 = g0 2 2 → g 0 13 = g0 0 13 → Ex (fX6_readSum_5_p48 fu (fX6_readExpr_5 fu 0) k7 v1 v2 t0 g L) (fun (r : Unit) (g1 : Nat → Nat → Int32) (L1 : Nat → Nat → Int64) => zI XT g1 ∧ pJ g1 ∧ g1 2 2 = g0 2 2 ∧ g1 0 13 = g0 0 13) := by
          intro t0 g L hb_v1 hb_v2 hb_t0 hI hJ k0_0 k0_1
          unfold fX6_readSum_5_p48
          refine Ex.cb (sX6_advance_5 fu hfu g L hI hJ) (fun x19 g20 L21 hq23 => ?_)
          obtain ⟨hI, hJ, kk0, kk1⟩ := hq23
          have hI : zI XT g20 := hI
          have hJ : pJ g20 := hJ
          have k0_0 : g20 2 2 = g0 2 2 := kk0.trans k0_0
          have k0_1 : g20 0 13 = g0 0 13 := kk1.trans k0_1
          refine Ex.cb (sX6_readProduct_5_L1 fu hfu v1 g20 L21 hI hJ (by omega)) (fun x24 g25 L26 hq28 => ?_)
          obtain ⟨hI, hJ, kk0, kk1⟩ := hq28
          have hI : zI XT g25 := hI
          have hJ : pJ g25 := hJ
          have k0_0 : g25 2 2 = g0 2 2 := kk0.trans k0_0
          have k0_1 : g25 0 13 = g0 0 13 := kk1.trans k0_1
          refine Ex.cb (sX8_add_4 fu hfu t0 g25 L26 hI hJ) (fun x29 g30 L31 hq33 => ?_)
          obtain ⟨hI, hJ, kk0, kk1⟩ := hq33
          have hI : zI XT g30 := hI
          have hJ : pJ g30 := hJ
          have k0_0 : g30 2 2 = g0 2 2 := kk0.trans k0_0
          have k0_1 : g30 0 13 = g0 0 13 := kk1.trans k0_1
          generalize z34q : (v2 + 1) = z34
          have e35 : (Int32.toInt z34) = (Int32.toInt v2) + 1 := by rw [← z34q]; exact ic_addc rfl (by decide) (by omega) (by omega)
          exact ih7 (z34, g30, L31) ⟨(show (6 ≤ (Int32.toInt v1) ∧ (Int32.toInt v1) ≤ 6) from by omega), (show (0 ≤ (Int32.toInt z34) ∧ (Int32.toInt z34) ≤ 700) from by omega), hI, hJ, k0_0, k0_1⟩ (by show 701 - (Int32.toInt z34) < _; omega) (by omega)
        refine Ex.ite (fun c36 => ?_) (fun c36 => ?_)
        ·
          have c36 := icc_eq (m := (Int32.toInt x13)) (n := 0) rfl (by decide) c36
          exact J48 (-8) g14 L15 (by omega) (by omega) (by decide) hI hJ k0_0 k0_1
        ·
          have c36 := icc_neq (m := (Int32.toInt x13)) (n := 0) rfl (by decide) c36
          exact J48 (-7) g14 L15 (by omega) (by omega) (by decide) hI hJ k0_0 k0_1
      refine Ex.ite (fun c37 => ?_) (fun c37 => ?_)
      ·
        have c37 := icc_eq (m := (Int32.toInt x7)) (n := 0) rfl (by decide) c37
        refine Ex.cb (sX6_isSignNow_5 fu hfu 45 g8 L9 hI hJ) (fun x38 g39 L40 hq42 => ?_)
        obtain ⟨hI, hJ, kk0, kk1, rb_⟩ := hq42
        have b43 : 0 ≤ (Int32.toInt x38) ∧ (Int32.toInt x38) ≤ 1 := rb_
        have hI : zI XT g39 := hI
        have hJ : pJ g39 := hJ
        have k0_0 : g39 2 2 = g0 2 2 := kk0.trans k0_0
        have k0_1 : g39 0 13 = g0 0 13 := kk1.trans k0_1
        refine Ex.ite (fun c44 => ?_) (fun c44 => ?_)
        ·
          have c44 := icc_eq (m := (Int32.toInt x38)) (n := 0) rfl (by decide) c44
          exact J75 g39 L40 hI hJ k0_0 k0_1
        ·
          have c44 := icc_neq (m := (Int32.toInt x38)) (n := 0) rfl (by decide) c44
          exact J32 g39 L40 (by omega) (by omega) hI hJ k0_0 k0_1
      ·
        have c37 := icc_neq (m := (Int32.toInt x7)) (n := 0) rfl (by decide) c37
        exact J32 g8 L9 (by omega) (by omega) hI hJ k0_0 k0_1
  exact lp7 p1 0 g2 L3 (by omega) (by decide) hI hJ k0_0 k0_1
set_option maxHeartbeats 4000000 in
set_option maxRecDepth 100000 in
theorem sX6_readTest_5_L1 (fu : Nat) (hfu : 1180591620717411303424 ≤ fu) (p1 : Int32) (g0 : Nat → Nat → Int32) (L0 : Nat → Nat → Int64) (hI : zI XT g0) (hJ : pJ g0) (hp1 : (6 ≤ (Int32.toInt p1) ∧ (Int32.toInt p1) ≤ 6)) : Ex (fX6_readTest_5 fu (fX6_readExpr_5 fu 0) p1 g0 L0) (fun (r : Unit) (g1 : Nat → Nat → Int32) (L1 : Nat → Nat → Int64) => zI XT g1 ∧ pJ g1 ∧ g1 2 2 = g0 2 2 ∧ g1 0 13 = g0 0 13) := by
  have k0_0 : g0 2 2 = g0 2 2 := rfl
  have k0_1 : g0 0 13 = g0 0 13 := rfl
  unfold fX6_readTest_5
  refine Ex.cb (sX6_readSum_5_L1 fu hfu p1 g0 L0 hI hJ (by omega)) (fun x1 g2 L3 hq5 => ?_)
  obtain ⟨hI, hJ, kk0, kk1⟩ := hq5
  have hI : zI XT g2 := hI
  have hJ : pJ g2 := hJ
  have k0_0 : g2 2 2 = g0 2 2 := kk0.trans k0_0
  have k0_1 : g2 0 13 = g0 0 13 := kk1.trans k0_1
  refine Ex.cb (sX6_isSignNow_5 fu hfu 60 g2 L3 hI hJ) (fun x6 g7 L8 hq10 => ?_)
  obtain ⟨hI, hJ, kk0, kk1, rb_⟩ := hq10
  have b11 : 0 ≤ (Int32.toInt x6) ∧ (Int32.toInt x6) ≤ 1 := rb_
  have hI : zI XT g7 := hI
  have hJ : pJ g7 := hJ
  have k0_0 : g7 2 2 = g0 2 2 := kk0.trans k0_0
  have k0_1 : g7 0 13 = g0 0 13 := kk1.trans k0_1
  have J68 : ∀ (g : Nat → Nat → Int32) (L : Nat → Nat → Int64), zI XT g → pJ g → g 2 2 = g0 2 2 → g 0 13 = g0 0 13 → Ex (fX6_readTest_5_p68 fu (fX6_readExpr_5 fu 0) g L) (fun (r : Unit) (g1 : Nat → Nat → Int32) (L1 : Nat → Nat → Int64) => zI XT g1 ∧ pJ g1 ∧ g1 2 2 = g0 2 2 ∧ g1 0 13 = g0 0 13) := by
    intro g L hI hJ k0_0 k0_1
    unfold fX6_readTest_5_p68
    exact Ex.ret ⟨hI, hJ, k0_0, k0_1⟩
  refine Ex.ite (fun c12 => ?_) (fun c12 => ?_)
  ·
    have c12 := icc_eq (m := (Int32.toInt x6)) (n := 0) rfl (by decide) c12
    refine Ex.cb (sX6_isSignNow_5 fu hfu 61 g7 L8 hI hJ) (fun x13 g14 L15 hq17 => ?_)
    obtain ⟨hI, hJ, kk0, kk1, rb_⟩ := hq17
    have b18 : 0 ≤ (Int32.toInt x13) ∧ (Int32.toInt x13) ≤ 1 := rb_
    have hI : zI XT g14 := hI
    have hJ : pJ g14 := hJ
    have k0_0 : g14 2 2 = g0 2 2 := kk0.trans k0_0
    have k0_1 : g14 0 13 = g0 0 13 := kk1.trans k0_1
    refine Ex.ite (fun c19 => ?_) (fun c19 => ?_)
    ·
      have c19 := icc_eq (m := (Int32.toInt x13)) (n := 0) rfl (by decide) c19
      exact J68 g14 L15 hI hJ k0_0 k0_1
    ·
      have c19 := icc_neq (m := (Int32.toInt x13)) (n := 0) rfl (by decide) c19
      refine Ex.cb (sX6_advance_5 fu hfu g14 L15 hI hJ) (fun x20 g21 L22 hq24 => ?_)
      obtain ⟨hI, hJ, kk0, kk1⟩ := hq24
      have hI : zI XT g21 := hI
      have hJ : pJ g21 := hJ
      have k0_0 : g21 2 2 = g0 2 2 := kk0.trans k0_0
      have k0_1 : g21 0 13 = g0 0 13 := kk1.trans k0_1
      refine Ex.cb (sX6_readSum_5_L1 fu hfu p1 g21 L22 hI hJ (by omega)) (fun x25 g26 L27 hq29 => ?_)
      obtain ⟨hI, hJ, kk0, kk1⟩ := hq29
      have hI : zI XT g26 := hI
      have hJ : pJ g26 := hJ
      have k0_0 : g26 2 2 = g0 2 2 := kk0.trans k0_0
      have k0_1 : g26 0 13 = g0 0 13 := kk1.trans k0_1
      refine Ex.cb (sX8_add_4 fu hfu (-12) g26 L27 hI hJ) (fun x30 g31 L32 hq34 => ?_)
      obtain ⟨hI, hJ, kk0, kk1⟩ := hq34
      have hI : zI XT g31 := hI
      have hJ : pJ g31 := hJ
      have k0_0 : g31 2 2 = g0 2 2 := kk0.trans k0_0
      have k0_1 : g31 0 13 = g0 0 13 := kk1.trans k0_1
      exact J68 g31 L32 hI hJ k0_0 k0_1
  ·
    have c12 := icc_neq (m := (Int32.toInt x6)) (n := 0) rfl (by decide) c12
    refine Ex.cb (sX6_advance_5 fu hfu g7 L8 hI hJ) (fun x35 g36 L37 hq39 => ?_)
    obtain ⟨hI, hJ, kk0, kk1⟩ := hq39
    have hI : zI XT g36 := hI
    have hJ : pJ g36 := hJ
    have k0_0 : g36 2 2 = g0 2 2 := kk0.trans k0_0
    have k0_1 : g36 0 13 = g0 0 13 := kk1.trans k0_1
    refine Ex.cb (sX6_readSum_5_L1 fu hfu p1 g36 L37 hI hJ (by omega)) (fun x40 g41 L42 hq44 => ?_)
    obtain ⟨hI, hJ, kk0, kk1⟩ := hq44
    have hI : zI XT g41 := hI
    have hJ : pJ g41 := hJ
    have k0_0 : g41 2 2 = g0 2 2 := kk0.trans k0_0
    have k0_1 : g41 0 13 = g0 0 13 := kk1.trans k0_1
    refine Ex.cb (sX8_add_4 fu hfu (-11) g41 L42 hI hJ) (fun x45 g46 L47 hq49 => ?_)
    obtain ⟨hI, hJ, kk0, kk1⟩ := hq49
    have hI : zI XT g46 := hI
    have hJ : pJ g46 := hJ
    have k0_0 : g46 2 2 = g0 2 2 := kk0.trans k0_0
    have k0_1 : g46 0 13 = g0 0 13 := kk1.trans k0_1
    exact J68 g46 L47 hI hJ k0_0 k0_1
set_option maxHeartbeats 4000000 in
set_option maxRecDepth 100000 in
theorem sX6_isWord_5_not (fu : Nat) (hfu : 1180591620717411303424 ≤ fu) (g0 : Nat → Nat → Int32) (L0 : Nat → Nat → Int64) (hI : zI XT g0) (hJ : pJ g0) : Ex (fX6_isWord_5_not fu g0 L0) (fun (r : Int32) (g1 : Nat → Nat → Int32) (L1 : Nat → Nat → Int64) => zI XT g1 ∧ pJ g1 ∧ g1 2 2 = g0 2 2 ∧ g1 0 13 = g0 0 13 ∧ (0 ≤ (Int32.toInt r) ∧ (Int32.toInt r) ≤ 1)) := by
  have k0_0 : g0 2 2 = g0 2 2 := rfl
  have k0_1 : g0 0 13 = g0 0 13 := rfl
  unfold fX6_isWord_5_not
  have J24 : ∀ (g : Nat → Nat → Int32) (L : Nat → Nat → Int64), zI XT g → pJ g → g 2 2 = g0 2 2 → g 0 13 = g0 0 13 → Ex (fX6_isWord_5_not_p24 fu g L) (fun (r : Int32) (g1 : Nat → Nat → Int32) (L1 : Nat → Nat → Int64) => zI XT g1 ∧ pJ g1 ∧ g1 2 2 = g0 2 2 ∧ g1 0 13 = g0 0 13 ∧ (0 ≤ (Int32.toInt r) ∧ (Int32.toInt r) ≤ 1)) := by
    intro g L hI hJ k0_0 k0_1
    unfold fX6_isWord_5_not_p24
    refine Ex.ckb rfl ?_
    exact Ex.ret ⟨hI, hJ, k0_0, k0_1, (by decide)⟩
  refine Ex.ite (fun c1 => ?_) (fun c1 => ?_)
  ·
    have c1 := icc_eq (m := (Int32.toInt (g0 5 4))) (n := 2) rfl (by decide) c1
    have b2 : 0 ≤ (Int32.toInt (g0 5 3)) ∧ (Int32.toInt (g0 5 3)) ≤ 700 := hI 5 3 0 700 rfl
    have b3 : 0 ≤ (Int32.toInt (g0 5 5)) ∧ (Int32.toInt (g0 5 5)) ≤ 700 := hI 5 5 0 700 rfl
    generalize z4q : ((g0 5 3) - (g0 5 5)) = z4
    have e5 : (Int32.toInt z4) = (Int32.toInt (g0 5 3)) - (Int32.toInt (g0 5 5)) := by rw [← z4q]; exact ic_subc rfl rfl (by omega) (by omega)
    refine Ex.ite (fun c6 => ?_) (fun c6 => ?_)
    ·
      have c6 := icc_eq (m := (Int32.toInt z4)) (n := 3) rfl (by decide) c6
      have lp28 : ∀ (v2 : Int32) (g : Nat → Nat → Int32) (L : Nat → Nat → Int64), (0 ≤ (Int32.toInt v2) ∧ (Int32.toInt v2) ≤ 3) → ((Int32.toInt (g 5 5)) = (Int32.toInt (g0 5 5))) → zI XT g → pJ g → g 2 2 = g0 2 2 → g 0 13 = g0 0 13 → Ex (fX6_isWord_5_not_l28 fu v2 g L) (fun (r : Int32) (g1 : Nat → Nat → Int32) (L1 : Nat → Nat → Int64) => zI XT g1 ∧ pJ g1 ∧ g1 2 2 = g0 2 2 ∧ g1 0 13 = g0 0 13 ∧ (0 ≤ (Int32.toInt r) ∧ (Int32.toInt r) ≤ 1)) := by
        intro v2 g L hb_v2 hn_0 hI hJ k0_0 k0_1
        unfold fX6_isWord_5_not_l28
        refine Ex.loop (fun v => ((0 ≤ (Int32.toInt (v.1)) ∧ (Int32.toInt (v.1)) ≤ 3)) ∧ (((Int32.toInt ((v.2.1) 5 5)) = (Int32.toInt (g0 5 5)))) ∧ (zI XT (v.2.1)) ∧ (pJ (v.2.1)) ∧ ((v.2.1) 2 2 = g0 2 2) ∧ ((v.2.1) 0 13 = g0 0 13)) (fun v => 4 - (Int32.toInt (v.1))) (by omega) (by show 4 - (Int32.toInt v2) < (fu : Int); omega) ⟨hb_v2, hn_0, hI, hJ, k0_0, k0_1⟩ (fun k28 v hv ih28 => ?_)
        obtain ⟨v2, g, L⟩ := v
        obtain ⟨hb_v2, hn_0, hI, hJ, k0_0, k0_1⟩ := hv
        have hb_v2 : (0 ≤ (Int32.toInt v2) ∧ (Int32.toInt v2) ≤ 3) := hb_v2
        have hn_0 : ((Int32.toInt (g 5 5)) = (Int32.toInt (g0 5 5))) := hn_0
        have hI : zI XT g := hI
        have hJ : pJ g := hJ
        have k0_0 : g 2 2 = g0 2 2 := k0_0
        have k0_1 : g 0 13 = g0 0 13 := k0_1
        have ih28 : ∀ v' : Int32 × (Nat → Nat → Int32) × (Nat → Nat → Int64), (((0 ≤ (Int32.toInt (v'.1)) ∧ (Int32.toInt (v'.1)) ≤ 3)) ∧ (((Int32.toInt ((v'.2.1) 5 5)) = (Int32.toInt (g0 5 5)))) ∧ (zI XT (v'.2.1)) ∧ (pJ (v'.2.1)) ∧ ((v'.2.1) 2 2 = g0 2 2) ∧ ((v'.2.1) 0 13 = g0 0 13)) → 4 - (Int32.toInt (v'.1)) < 4 - (Int32.toInt v2) → 0 < 4 - (Int32.toInt v2) → Ex (k28 v') (fun (r : Int32) (g1 : Nat → Nat → Int32) (L1 : Nat → Nat → Int64) => zI XT g1 ∧ pJ g1 ∧ g1 2 2 = g0 2 2 ∧ g1 0 13 = g0 0 13 ∧ (0 ≤ (Int32.toInt r) ∧ (Int32.toInt r) ≤ 1)) := ih28
        show Ex (fX6_isWord_5_not_s28 fu k28 v2 g L) (fun (r : Int32) (g1 : Nat → Nat → Int32) (L1 : Nat → Nat → Int64) => zI XT g1 ∧ pJ g1 ∧ g1 2 2 = g0 2 2 ∧ g1 0 13 = g0 0 13 ∧ (0 ≤ (Int32.toInt r) ∧ (Int32.toInt r) ≤ 1))
        unfold fX6_isWord_5_not_s28
        refine Ex.ite (fun c7 => ?_) (fun c7 => ?_)
        ·
          have c7 := icc_le (m := 3) (n := (Int32.toInt v2)) (by decide) rfl c7
          refine Ex.ckb rfl ?_
          exact Ex.ret ⟨hI, hJ, k0_0, k0_1, (by decide)⟩
        ·
          have c7 := icc_nle (m := 3) (n := (Int32.toInt v2)) (by decide) rfl c7
          have b8 : 0 ≤ (Int32.toInt (g 5 5)) ∧ (Int32.toInt (g 5 5)) ≤ 700 := hI 5 5 0 700 rfl
          generalize z9q : ((g 5 5) + v2) = z9
          have e10 : (Int32.toInt z9) = (Int32.toInt (g 5 5)) + (Int32.toInt v2) := by rw [← z9q]; exact ic_addc rfl rfl (by omega) (by omega)
          refine Ex.ck (by omega) (by omega) ?_
          have b11 : 0 ≤ (Int32.toInt (g 14 (Int32.toNatClampNeg z9))) ∧ (Int32.toInt (g 14 (Int32.toNatClampNeg z9))) ≤ 255 := hI 14 _ 0 255 rfl
          refine Ex.ck (by omega) (by omega) ?_
          refine Ex.ite (fun c12 => ?_) (fun c12 => ?_)
          ·
            have c12 := icc_eq (m := (Int32.toInt (g 14 (Int32.toNatClampNeg z9)))) (n := (Int32.toInt (sch 11 (Int32.toNatClampNeg v2)))) rfl rfl c12
            generalize z13q : (v2 + 1) = z13
            have e14 : (Int32.toInt z13) = (Int32.toInt v2) + 1 := by rw [← z13q]; exact ic_addc rfl (by decide) (by omega) (by omega)
            exact ih28 (z13, g, L) ⟨(show (0 ≤ (Int32.toInt z13) ∧ (Int32.toInt z13) ≤ 3) from by omega), (show ((Int32.toInt (g 5 5)) = (Int32.toInt (g0 5 5))) from by omega), hI, hJ, k0_0, k0_1⟩ (by show 4 - (Int32.toInt z13) < _; omega) (by omega)
          ·
            have c12 := icc_neq (m := (Int32.toInt (g 14 (Int32.toNatClampNeg z9)))) (n := (Int32.toInt (sch 11 (Int32.toNatClampNeg v2)))) rfl rfl c12
            refine Ex.ckb rfl ?_
            exact Ex.ret ⟨hI, hJ, k0_0, k0_1, (by decide)⟩
      have hc_ : (0 : Int32).toInt = 0 := by decide
      exact lp28 0 g0 L0 (by decide) (by omega) hI hJ k0_0 k0_1
    ·
      have c6 := icc_neq (m := (Int32.toInt z4)) (n := 3) rfl (by decide) c6
      exact J24 g0 L0 hI hJ k0_0 k0_1
  ·
    have c1 := icc_neq (m := (Int32.toInt (g0 5 4))) (n := 2) rfl (by decide) c1
    exact J24 g0 L0 hI hJ k0_0 k0_1
set_option maxHeartbeats 4000000 in
set_option maxRecDepth 100000 in
theorem sX6_readNot_5_L1 (fu : Nat) (hfu : 1180591620717411303424 ≤ fu) (p1 : Int32) (g0 : Nat → Nat → Int32) (L0 : Nat → Nat → Int64) (hI : zI XT g0) (hJ : pJ g0) (hp1 : (6 ≤ (Int32.toInt p1) ∧ (Int32.toInt p1) ≤ 6)) : Ex (fX6_readNot_5 fu (fX6_readExpr_5 fu 0) p1 g0 L0) (fun (r : Unit) (g1 : Nat → Nat → Int32) (L1 : Nat → Nat → Int64) => zI XT g1 ∧ pJ g1 ∧ g1 2 2 = g0 2 2 ∧ g1 0 13 = g0 0 13) := by
  have k0_0 : g0 2 2 = g0 2 2 := rfl
  have k0_1 : g0 0 13 = g0 0 13 := rfl
  unfold fX6_readNot_5
  have lp2 : ∀ (v1 : Int32) (v2 : Int32) (g : Nat → Nat → Int32) (L : Nat → Nat → Int64), (6 ≤ (Int32.toInt v1) ∧ (Int32.toInt v1) ≤ 6) → (0 ≤ (Int32.toInt v2) ∧ (Int32.toInt v2) ≤ 6) → zI XT g → pJ g → g 2 2 = g0 2 2 → g 0 13 = g0 0 13 → Ex (fX6_readNot_5_l2 fu (fX6_readExpr_5 fu 0) v1 v2 g L) (fun (r : Unit) (g1 : Nat → Nat → Int32) (L1 : Nat → Nat → Int64) => zI XT g1 ∧ pJ g1 ∧ g1 2 2 = g0 2 2 ∧ g1 0 13 = g0 0 13) := by
    intro v1 v2 g L hb_v1 hb_v2 hI hJ k0_0 k0_1
    unfold fX6_readNot_5_l2
    refine Ex.loop (fun v => ((6 ≤ (Int32.toInt v1) ∧ (Int32.toInt v1) ≤ 6)) ∧ ((0 ≤ (Int32.toInt (v.1)) ∧ (Int32.toInt (v.1)) ≤ 6)) ∧ (zI XT (v.2.1)) ∧ (pJ (v.2.1)) ∧ ((v.2.1) 2 2 = g0 2 2) ∧ ((v.2.1) 0 13 = g0 0 13)) (fun v => 7 - (Int32.toInt (v.1))) (by omega) (by show 7 - (Int32.toInt v2) < (fu : Int); omega) ⟨hb_v1, hb_v2, hI, hJ, k0_0, k0_1⟩ (fun k2 v hv ih2 => ?_)
    obtain ⟨v2, g, L⟩ := v
    obtain ⟨hb_v1, hb_v2, hI, hJ, k0_0, k0_1⟩ := hv
    have hb_v1 : (6 ≤ (Int32.toInt v1) ∧ (Int32.toInt v1) ≤ 6) := hb_v1
    have hb_v2 : (0 ≤ (Int32.toInt v2) ∧ (Int32.toInt v2) ≤ 6) := hb_v2
    have hI : zI XT g := hI
    have hJ : pJ g := hJ
    have k0_0 : g 2 2 = g0 2 2 := k0_0
    have k0_1 : g 0 13 = g0 0 13 := k0_1
    have ih2 : ∀ v' : Int32 × (Nat → Nat → Int32) × (Nat → Nat → Int64), (((6 ≤ (Int32.toInt v1) ∧ (Int32.toInt v1) ≤ 6)) ∧ ((0 ≤ (Int32.toInt (v'.1)) ∧ (Int32.toInt (v'.1)) ≤ 6)) ∧ (zI XT (v'.2.1)) ∧ (pJ (v'.2.1)) ∧ ((v'.2.1) 2 2 = g0 2 2) ∧ ((v'.2.1) 0 13 = g0 0 13)) → 7 - (Int32.toInt (v'.1)) < 7 - (Int32.toInt v2) → 0 < 7 - (Int32.toInt v2) → Ex (k2 v') (fun (r : Unit) (g1 : Nat → Nat → Int32) (L1 : Nat → Nat → Int64) => zI XT g1 ∧ pJ g1 ∧ g1 2 2 = g0 2 2 ∧ g1 0 13 = g0 0 13) := ih2
    show Ex (fX6_readNot_5_s2 fu (fX6_readExpr_5 fu 0) v1 k2 v2 g L) (fun (r : Unit) (g1 : Nat → Nat → Int32) (L1 : Nat → Nat → Int64) => zI XT g1 ∧ pJ g1 ∧ g1 2 2 = g0 2 2 ∧ g1 0 13 = g0 0 13)
    unfold fX6_readNot_5_s2
    have J27 : ∀ (v1 : Int32) (v2 : Int32) (g : Nat → Nat → Int32) (L : Nat → Nat → Int64), (6 ≤ (Int32.toInt v1) ∧ (Int32.toInt v1) ≤ 6) → (0 ≤ (Int32.toInt v2) ∧ (Int32.toInt v2) ≤ 6) → zI XT g → pJ g → g 2 2 = g0 2 2 → g 0 13 = g0 0 13 → Ex (fX6_readNot_5_p27 fu (fX6_readExpr_5 fu 0) v1 v2 g L) (fun (r : Unit) (g1 : Nat → Nat → Int32) (L1 : Nat → Nat → Int64) => zI XT g1 ∧ pJ g1 ∧ g1 2 2 = g0 2 2 ∧ g1 0 13 = g0 0 13) := by
      intro v1 v2 g L hb_v1 hb_v2 hI hJ k0_0 k0_1
      unfold fX6_readNot_5_p27
      refine Ex.cb (sX6_isWord_5_not fu hfu g L hI hJ) (fun x1 g2 L3 hq5 => ?_)
      obtain ⟨hI, hJ, kk0, kk1, rb_⟩ := hq5
      have b6 : 0 ≤ (Int32.toInt x1) ∧ (Int32.toInt x1) ≤ 1 := rb_
      have hI : zI XT g2 := hI
      have hJ : pJ g2 := hJ
      have k0_0 : g2 2 2 = g0 2 2 := kk0.trans k0_0
      have k0_1 : g2 0 13 = g0 0 13 := kk1.trans k0_1
      have J47 : ∀ (v1 : Int32) (v2 : Int32) (g : Nat → Nat → Int32) (L : Nat → Nat → Int64), (6 ≤ (Int32.toInt v1) ∧ (Int32.toInt v1) ≤ 6) → (0 ≤ (Int32.toInt v2) ∧ (Int32.toInt v2) ≤ 6) → zI XT g → pJ g → g 2 2 = g0 2 2 → g 0 13 = g0 0 13 → Ex (fX6_readNot_5_p47 fu (fX6_readExpr_5 fu 0) v1 v2 g L) (fun (r : Unit) (g1 : Nat → Nat → Int32) (L1 : Nat → Nat → Int64) => zI XT g1 ∧ pJ g1 ∧ g1 2 2 = g0 2 2 ∧ g1 0 13 = g0 0 13) := by
        intro v1 v2 g L hb_v1 hb_v2 hI hJ k0_0 k0_1
        unfold fX6_readNot_5_p47
        refine Ex.cb (sX6_readTest_5_L1 fu hfu v1 g L hI hJ (by omega)) (fun x7 g8 L9 hq11 => ?_)
        obtain ⟨hI, hJ, kk0, kk1⟩ := hq11
        have hI : zI XT g8 := hI
        have hJ : pJ g8 := hJ
        have k0_0 : g8 2 2 = g0 2 2 := kk0.trans k0_0
        have k0_1 : g8 0 13 = g0 0 13 := kk1.trans k0_1
        have lp54 : ∀ (v2 : Int32) (v3 : Int32) (g : Nat → Nat → Int32) (L : Nat → Nat → Int64), (0 ≤ (Int32.toInt v2) ∧ (Int32.toInt v2) ≤ 6) → (0 ≤ (Int32.toInt v3) ∧ (Int32.toInt v3) ≤ 6) → zI XT g → pJ g → g 2 2 = g0 2 2 → g 0 13 = g0 0 13 → Ex (fX6_readNot_5_l54 fu (fX6_readExpr_5 fu 0) v2 v3 g L) (fun (r : Unit) (g1 : Nat → Nat → Int32) (L1 : Nat → Nat → Int64) => zI XT g1 ∧ pJ g1 ∧ g1 2 2 = g0 2 2 ∧ g1 0 13 = g0 0 13) := by
          intro v2 v3 g L hb_v2 hb_v3 hI hJ k0_0 k0_1
          unfold fX6_readNot_5_l54
          refine Ex.loop (fun v => ((0 ≤ (Int32.toInt v2) ∧ (Int32.toInt v2) ≤ 6)) ∧ ((0 ≤ (Int32.toInt (v.1)) ∧ (Int32.toInt (v.1)) ≤ 6)) ∧ (zI XT (v.2.1)) ∧ (pJ (v.2.1)) ∧ ((v.2.1) 2 2 = g0 2 2) ∧ ((v.2.1) 0 13 = g0 0 13)) (fun v => 7 - (Int32.toInt (v.1))) (by omega) (by show 7 - (Int32.toInt v3) < (fu : Int); omega) ⟨hb_v2, hb_v3, hI, hJ, k0_0, k0_1⟩ (fun k54 v hv ih54 => ?_)
          obtain ⟨v3, g, L⟩ := v
          obtain ⟨hb_v2, hb_v3, hI, hJ, k0_0, k0_1⟩ := hv
          have hb_v2 : (0 ≤ (Int32.toInt v2) ∧ (Int32.toInt v2) ≤ 6) := hb_v2
          have hb_v3 : (0 ≤ (Int32.toInt v3) ∧ (Int32.toInt v3) ≤ 6) := hb_v3
          have hI : zI XT g := hI
          have hJ : pJ g := hJ
          have k0_0 : g 2 2 = g0 2 2 := k0_0
          have k0_1 : g 0 13 = g0 0 13 := k0_1
          have ih54 : ∀ v' : Int32 × (Nat → Nat → Int32) × (Nat → Nat → Int64), (((0 ≤ (Int32.toInt v2) ∧ (Int32.toInt v2) ≤ 6)) ∧ ((0 ≤ (Int32.toInt (v'.1)) ∧ (Int32.toInt (v'.1)) ≤ 6)) ∧ (zI XT (v'.2.1)) ∧ (pJ (v'.2.1)) ∧ ((v'.2.1) 2 2 = g0 2 2) ∧ ((v'.2.1) 0 13 = g0 0 13)) → 7 - (Int32.toInt (v'.1)) < 7 - (Int32.toInt v3) → 0 < 7 - (Int32.toInt v3) → Ex (k54 v') (fun (r : Unit) (g1 : Nat → Nat → Int32) (L1 : Nat → Nat → Int64) => zI XT g1 ∧ pJ g1 ∧ g1 2 2 = g0 2 2 ∧ g1 0 13 = g0 0 13) := ih54
          show Ex (fX6_readNot_5_s54 fu (fX6_readExpr_5 fu 0) v2 k54 v3 g L) (fun (r : Unit) (g1 : Nat → Nat → Int32) (L1 : Nat → Nat → Int64) => zI XT g1 ∧ pJ g1 ∧ g1 2 2 = g0 2 2 ∧ g1 0 13 = g0 0 13)
          unfold fX6_readNot_5_s54
          refine Ex.ite (fun c12 => ?_) (fun c12 => ?_)
          ·
            have c12 := icc_le (m := (Int32.toInt v2)) (n := (Int32.toInt v3)) rfl rfl c12
            exact Ex.ret ⟨hI, hJ, k0_0, k0_1⟩
          ·
            have c12 := icc_nle (m := (Int32.toInt v2)) (n := (Int32.toInt v3)) rfl rfl c12
            refine Ex.cb (sX8_add_4 fu hfu (-15) g L hI hJ) (fun x13 g14 L15 hq17 => ?_)
            obtain ⟨hI, hJ, kk0, kk1⟩ := hq17
            have hI : zI XT g14 := hI
            have hJ : pJ g14 := hJ
            have k0_0 : g14 2 2 = g0 2 2 := kk0.trans k0_0
            have k0_1 : g14 0 13 = g0 0 13 := kk1.trans k0_1
            generalize z18q : (v3 + 1) = z18
            have e19 : (Int32.toInt z18) = (Int32.toInt v3) + 1 := by rw [← z18q]; exact ic_addc rfl (by decide) (by omega) (by omega)
            exact ih54 (z18, g14, L15) ⟨(show (0 ≤ (Int32.toInt v2) ∧ (Int32.toInt v2) ≤ 6) from by omega), (show (0 ≤ (Int32.toInt z18) ∧ (Int32.toInt z18) ≤ 6) from by omega), hI, hJ, k0_0, k0_1⟩ (by show 7 - (Int32.toInt z18) < _; omega) (by omega)
        exact lp54 v2 0 g8 L9 (by omega) (by decide) hI hJ k0_0 k0_1
      refine Ex.ite (fun c20 => ?_) (fun c20 => ?_)
      ·
        have c20 := icc_eq (m := (Int32.toInt x1)) (n := 0) rfl (by decide) c20
        exact J47 v1 v2 g2 L3 (by omega) (by omega) hI hJ k0_0 k0_1
      ·
        have c20 := icc_neq (m := (Int32.toInt x1)) (n := 0) rfl (by decide) c20
        refine Ex.ite (fun c21 => ?_) (fun c21 => ?_)
        ·
          have c21 := icc_lt (m := (Int32.toInt v2)) (n := 6) rfl (by decide) c21
          exact J47 v1 v2 g2 L3 (by omega) (by omega) hI hJ k0_0 k0_1
        ·
          have c21 := icc_nlt (m := (Int32.toInt v2)) (n := 6) rfl (by decide) c21
          refine Ex.cb (sX6_refuse_5 fu hfu 2 g2 L3 hI hJ) (fun x22 g23 L24 hq26 => ?_)
          obtain ⟨hI, hJ, kk0, kk1⟩ := hq26
          have hI : zI XT g23 := hI
          have hJ : pJ g23 := hJ
          have k0_0 : g23 2 2 = g0 2 2 := kk0.trans k0_0
          have k0_1 : g23 0 13 = g0 0 13 := kk1.trans k0_1
          exact J47 v1 v2 g23 L24 (by omega) (by omega) hI hJ k0_0 k0_1
    refine Ex.ite (fun c27 => ?_) (fun c27 => ?_)
    ·
      have c27 := icc_le (m := 6) (n := (Int32.toInt v2)) (by decide) rfl c27
      exact J27 v1 v2 g L (by omega) (by omega) hI hJ k0_0 k0_1
    ·
      have c27 := icc_nle (m := 6) (n := (Int32.toInt v2)) (by decide) rfl c27
      refine Ex.cb (sX6_isWord_5_not fu hfu g L hI hJ) (fun x28 g29 L30 hq32 => ?_)
      obtain ⟨hI, hJ, kk0, kk1, rb_⟩ := hq32
      have b33 : 0 ≤ (Int32.toInt x28) ∧ (Int32.toInt x28) ≤ 1 := rb_
      have hI : zI XT g29 := hI
      have hJ : pJ g29 := hJ
      have k0_0 : g29 2 2 = g0 2 2 := kk0.trans k0_0
      have k0_1 : g29 0 13 = g0 0 13 := kk1.trans k0_1
      refine Ex.ite (fun c34 => ?_) (fun c34 => ?_)
      ·
        have c34 := icc_eq (m := (Int32.toInt x28)) (n := 0) rfl (by decide) c34
        exact J27 v1 v2 g29 L30 (by omega) (by omega) hI hJ k0_0 k0_1
      ·
        have c34 := icc_neq (m := (Int32.toInt x28)) (n := 0) rfl (by decide) c34
        generalize z35q : (v2 + 1) = z35
        have e36 : (Int32.toInt z35) = (Int32.toInt v2) + 1 := by rw [← z35q]; exact ic_addc rfl (by decide) (by omega) (by omega)
        refine Ex.cb (sX6_advance_5 fu hfu g29 L30 hI hJ) (fun x37 g38 L39 hq41 => ?_)
        obtain ⟨hI, hJ, kk0, kk1⟩ := hq41
        have hI : zI XT g38 := hI
        have hJ : pJ g38 := hJ
        have k0_0 : g38 2 2 = g0 2 2 := kk0.trans k0_0
        have k0_1 : g38 0 13 = g0 0 13 := kk1.trans k0_1
        exact ih2 (z35, g38, L39) ⟨(show (6 ≤ (Int32.toInt v1) ∧ (Int32.toInt v1) ≤ 6) from by omega), (show (0 ≤ (Int32.toInt z35) ∧ (Int32.toInt z35) ≤ 6) from by omega), hI, hJ, k0_0, k0_1⟩ (by show 7 - (Int32.toInt z35) < _; omega) (by omega)
  exact lp2 p1 0 g0 L0 (by omega) (by decide) hI hJ k0_0 k0_1
set_option maxHeartbeats 4000000 in
set_option maxRecDepth 100000 in
theorem sX6_isWord_5_and (fu : Nat) (hfu : 1180591620717411303424 ≤ fu) (g0 : Nat → Nat → Int32) (L0 : Nat → Nat → Int64) (hI : zI XT g0) (hJ : pJ g0) : Ex (fX6_isWord_5_and fu g0 L0) (fun (r : Int32) (g1 : Nat → Nat → Int32) (L1 : Nat → Nat → Int64) => zI XT g1 ∧ pJ g1 ∧ g1 2 2 = g0 2 2 ∧ g1 0 13 = g0 0 13 ∧ (0 ≤ (Int32.toInt r) ∧ (Int32.toInt r) ≤ 1)) := by
  have k0_0 : g0 2 2 = g0 2 2 := rfl
  have k0_1 : g0 0 13 = g0 0 13 := rfl
  unfold fX6_isWord_5_and
  have J24 : ∀ (g : Nat → Nat → Int32) (L : Nat → Nat → Int64), zI XT g → pJ g → g 2 2 = g0 2 2 → g 0 13 = g0 0 13 → Ex (fX6_isWord_5_and_p24 fu g L) (fun (r : Int32) (g1 : Nat → Nat → Int32) (L1 : Nat → Nat → Int64) => zI XT g1 ∧ pJ g1 ∧ g1 2 2 = g0 2 2 ∧ g1 0 13 = g0 0 13 ∧ (0 ≤ (Int32.toInt r) ∧ (Int32.toInt r) ≤ 1)) := by
    intro g L hI hJ k0_0 k0_1
    unfold fX6_isWord_5_and_p24
    refine Ex.ckb rfl ?_
    exact Ex.ret ⟨hI, hJ, k0_0, k0_1, (by decide)⟩
  refine Ex.ite (fun c1 => ?_) (fun c1 => ?_)
  ·
    have c1 := icc_eq (m := (Int32.toInt (g0 5 4))) (n := 2) rfl (by decide) c1
    have b2 : 0 ≤ (Int32.toInt (g0 5 3)) ∧ (Int32.toInt (g0 5 3)) ≤ 700 := hI 5 3 0 700 rfl
    have b3 : 0 ≤ (Int32.toInt (g0 5 5)) ∧ (Int32.toInt (g0 5 5)) ≤ 700 := hI 5 5 0 700 rfl
    generalize z4q : ((g0 5 3) - (g0 5 5)) = z4
    have e5 : (Int32.toInt z4) = (Int32.toInt (g0 5 3)) - (Int32.toInt (g0 5 5)) := by rw [← z4q]; exact ic_subc rfl rfl (by omega) (by omega)
    refine Ex.ite (fun c6 => ?_) (fun c6 => ?_)
    ·
      have c6 := icc_eq (m := (Int32.toInt z4)) (n := 3) rfl (by decide) c6
      have lp28 : ∀ (v2 : Int32) (g : Nat → Nat → Int32) (L : Nat → Nat → Int64), (0 ≤ (Int32.toInt v2) ∧ (Int32.toInt v2) ≤ 3) → ((Int32.toInt (g 5 5)) = (Int32.toInt (g0 5 5))) → zI XT g → pJ g → g 2 2 = g0 2 2 → g 0 13 = g0 0 13 → Ex (fX6_isWord_5_and_l28 fu v2 g L) (fun (r : Int32) (g1 : Nat → Nat → Int32) (L1 : Nat → Nat → Int64) => zI XT g1 ∧ pJ g1 ∧ g1 2 2 = g0 2 2 ∧ g1 0 13 = g0 0 13 ∧ (0 ≤ (Int32.toInt r) ∧ (Int32.toInt r) ≤ 1)) := by
        intro v2 g L hb_v2 hn_0 hI hJ k0_0 k0_1
        unfold fX6_isWord_5_and_l28
        refine Ex.loop (fun v => ((0 ≤ (Int32.toInt (v.1)) ∧ (Int32.toInt (v.1)) ≤ 3)) ∧ (((Int32.toInt ((v.2.1) 5 5)) = (Int32.toInt (g0 5 5)))) ∧ (zI XT (v.2.1)) ∧ (pJ (v.2.1)) ∧ ((v.2.1) 2 2 = g0 2 2) ∧ ((v.2.1) 0 13 = g0 0 13)) (fun v => 4 - (Int32.toInt (v.1))) (by omega) (by show 4 - (Int32.toInt v2) < (fu : Int); omega) ⟨hb_v2, hn_0, hI, hJ, k0_0, k0_1⟩ (fun k28 v hv ih28 => ?_)
        obtain ⟨v2, g, L⟩ := v
        obtain ⟨hb_v2, hn_0, hI, hJ, k0_0, k0_1⟩ := hv
        have hb_v2 : (0 ≤ (Int32.toInt v2) ∧ (Int32.toInt v2) ≤ 3) := hb_v2
        have hn_0 : ((Int32.toInt (g 5 5)) = (Int32.toInt (g0 5 5))) := hn_0
        have hI : zI XT g := hI
        have hJ : pJ g := hJ
        have k0_0 : g 2 2 = g0 2 2 := k0_0
        have k0_1 : g 0 13 = g0 0 13 := k0_1
        have ih28 : ∀ v' : Int32 × (Nat → Nat → Int32) × (Nat → Nat → Int64), (((0 ≤ (Int32.toInt (v'.1)) ∧ (Int32.toInt (v'.1)) ≤ 3)) ∧ (((Int32.toInt ((v'.2.1) 5 5)) = (Int32.toInt (g0 5 5)))) ∧ (zI XT (v'.2.1)) ∧ (pJ (v'.2.1)) ∧ ((v'.2.1) 2 2 = g0 2 2) ∧ ((v'.2.1) 0 13 = g0 0 13)) → 4 - (Int32.toInt (v'.1)) < 4 - (Int32.toInt v2) → 0 < 4 - (Int32.toInt v2) → Ex (k28 v') (fun (r : Int32) (g1 : Nat → Nat → Int32) (L1 : Nat → Nat → Int64) => zI XT g1 ∧ pJ g1 ∧ g1 2 2 = g0 2 2 ∧ g1 0 13 = g0 0 13 ∧ (0 ≤ (Int32.toInt r) ∧ (Int32.toInt r) ≤ 1)) := ih28
        show Ex (fX6_isWord_5_and_s28 fu k28 v2 g L) (fun (r : Int32) (g1 : Nat → Nat → Int32) (L1 : Nat → Nat → Int64) => zI XT g1 ∧ pJ g1 ∧ g1 2 2 = g0 2 2 ∧ g1 0 13 = g0 0 13 ∧ (0 ≤ (Int32.toInt r) ∧ (Int32.toInt r) ≤ 1))
        unfold fX6_isWord_5_and_s28
        refine Ex.ite (fun c7 => ?_) (fun c7 => ?_)
        ·
          have c7 := icc_le (m := 3) (n := (Int32.toInt v2)) (by decide) rfl c7
          refine Ex.ckb rfl ?_
          exact Ex.ret ⟨hI, hJ, k0_0, k0_1, (by decide)⟩
        ·
          have c7 := icc_nle (m := 3) (n := (Int32.toInt v2)) (by decide) rfl c7
          have b8 : 0 ≤ (Int32.toInt (g 5 5)) ∧ (Int32.toInt (g 5 5)) ≤ 700 := hI 5 5 0 700 rfl
          generalize z9q : ((g 5 5) + v2) = z9
          have e10 : (Int32.toInt z9) = (Int32.toInt (g 5 5)) + (Int32.toInt v2) := by rw [← z9q]; exact ic_addc rfl rfl (by omega) (by omega)
          refine Ex.ck (by omega) (by omega) ?_
          have b11 : 0 ≤ (Int32.toInt (g 14 (Int32.toNatClampNeg z9))) ∧ (Int32.toInt (g 14 (Int32.toNatClampNeg z9))) ≤ 255 := hI 14 _ 0 255 rfl
          refine Ex.ck (by omega) (by omega) ?_
          refine Ex.ite (fun c12 => ?_) (fun c12 => ?_)
          ·
            have c12 := icc_eq (m := (Int32.toInt (g 14 (Int32.toNatClampNeg z9)))) (n := (Int32.toInt (sch 10 (Int32.toNatClampNeg v2)))) rfl rfl c12
            generalize z13q : (v2 + 1) = z13
            have e14 : (Int32.toInt z13) = (Int32.toInt v2) + 1 := by rw [← z13q]; exact ic_addc rfl (by decide) (by omega) (by omega)
            exact ih28 (z13, g, L) ⟨(show (0 ≤ (Int32.toInt z13) ∧ (Int32.toInt z13) ≤ 3) from by omega), (show ((Int32.toInt (g 5 5)) = (Int32.toInt (g0 5 5))) from by omega), hI, hJ, k0_0, k0_1⟩ (by show 4 - (Int32.toInt z13) < _; omega) (by omega)
          ·
            have c12 := icc_neq (m := (Int32.toInt (g 14 (Int32.toNatClampNeg z9)))) (n := (Int32.toInt (sch 10 (Int32.toNatClampNeg v2)))) rfl rfl c12
            refine Ex.ckb rfl ?_
            exact Ex.ret ⟨hI, hJ, k0_0, k0_1, (by decide)⟩
      have hc_ : (0 : Int32).toInt = 0 := by decide
      exact lp28 0 g0 L0 (by decide) (by omega) hI hJ k0_0 k0_1
    ·
      have c6 := icc_neq (m := (Int32.toInt z4)) (n := 3) rfl (by decide) c6
      exact J24 g0 L0 hI hJ k0_0 k0_1
  ·
    have c1 := icc_neq (m := (Int32.toInt (g0 5 4))) (n := 2) rfl (by decide) c1
    exact J24 g0 L0 hI hJ k0_0 k0_1
set_option maxHeartbeats 4000000 in
set_option maxRecDepth 100000 in
theorem sX6_readAnd_5_L1 (fu : Nat) (hfu : 1180591620717411303424 ≤ fu) (p1 : Int32) (g0 : Nat → Nat → Int32) (L0 : Nat → Nat → Int64) (hI : zI XT g0) (hJ : pJ g0) (hp1 : (6 ≤ (Int32.toInt p1) ∧ (Int32.toInt p1) ≤ 6)) : Ex (fX6_readAnd_5 fu (fX6_readExpr_5 fu 0) p1 g0 L0) (fun (r : Unit) (g1 : Nat → Nat → Int32) (L1 : Nat → Nat → Int64) => zI XT g1 ∧ pJ g1 ∧ g1 2 2 = g0 2 2 ∧ g1 0 13 = g0 0 13) := by
  have k0_0 : g0 2 2 = g0 2 2 := rfl
  have k0_1 : g0 0 13 = g0 0 13 := rfl
  unfold fX6_readAnd_5
  refine Ex.cb (sX6_readNot_5_L1 fu hfu p1 g0 L0 hI hJ (by omega)) (fun x1 g2 L3 hq5 => ?_)
  obtain ⟨hI, hJ, kk0, kk1⟩ := hq5
  have hI : zI XT g2 := hI
  have hJ : pJ g2 := hJ
  have k0_0 : g2 2 2 = g0 2 2 := kk0.trans k0_0
  have k0_1 : g2 0 13 = g0 0 13 := kk1.trans k0_1
  have lp7 : ∀ (v1 : Int32) (v2 : Int32) (g : Nat → Nat → Int32) (L : Nat → Nat → Int64), (6 ≤ (Int32.toInt v1) ∧ (Int32.toInt v1) ≤ 6) → (0 ≤ (Int32.toInt v2) ∧ (Int32.toInt v2) ≤ 700) → zI XT g → pJ g → g 2 2 = g0 2 2 → g 0 13 = g0 0 13 → Ex (fX6_readAnd_5_l7 fu (fX6_readExpr_5 fu 0) v1 v2 g L) (fun (r : Unit) (g1 : Nat → Nat → Int32) (L1 : Nat → Nat → Int64) => zI XT g1 ∧ pJ g1 ∧ g1 2 2 = g0 2 2 ∧ g1 0 13 = g0 0 13) := by
    intro v1 v2 g L hb_v1 hb_v2 hI hJ k0_0 k0_1
    unfold fX6_readAnd_5_l7
    refine Ex.loop (fun v => ((6 ≤ (Int32.toInt v1) ∧ (Int32.toInt v1) ≤ 6)) ∧ ((0 ≤ (Int32.toInt (v.1)) ∧ (Int32.toInt (v.1)) ≤ 700)) ∧ (zI XT (v.2.1)) ∧ (pJ (v.2.1)) ∧ ((v.2.1) 2 2 = g0 2 2) ∧ ((v.2.1) 0 13 = g0 0 13)) (fun v => 701 - (Int32.toInt (v.1))) (by omega) (by show 701 - (Int32.toInt v2) < (fu : Int); omega) ⟨hb_v1, hb_v2, hI, hJ, k0_0, k0_1⟩ (fun k7 v hv ih7 => ?_)
    obtain ⟨v2, g, L⟩ := v
    obtain ⟨hb_v1, hb_v2, hI, hJ, k0_0, k0_1⟩ := hv
    have hb_v1 : (6 ≤ (Int32.toInt v1) ∧ (Int32.toInt v1) ≤ 6) := hb_v1
    have hb_v2 : (0 ≤ (Int32.toInt v2) ∧ (Int32.toInt v2) ≤ 700) := hb_v2
    have hI : zI XT g := hI
    have hJ : pJ g := hJ
    have k0_0 : g 2 2 = g0 2 2 := k0_0
    have k0_1 : g 0 13 = g0 0 13 := k0_1
    have ih7 : ∀ v' : Int32 × (Nat → Nat → Int32) × (Nat → Nat → Int64), (((6 ≤ (Int32.toInt v1) ∧ (Int32.toInt v1) ≤ 6)) ∧ ((0 ≤ (Int32.toInt (v'.1)) ∧ (Int32.toInt (v'.1)) ≤ 700)) ∧ (zI XT (v'.2.1)) ∧ (pJ (v'.2.1)) ∧ ((v'.2.1) 2 2 = g0 2 2) ∧ ((v'.2.1) 0 13 = g0 0 13)) → 701 - (Int32.toInt (v'.1)) < 701 - (Int32.toInt v2) → 0 < 701 - (Int32.toInt v2) → Ex (k7 v') (fun (r : Unit) (g1 : Nat → Nat → Int32) (L1 : Nat → Nat → Int64) => zI XT g1 ∧ pJ g1 ∧ g1 2 2 = g0 2 2 ∧ g1 0 13 = g0 0 13) := ih7
    show Ex (fX6_readAnd_5_s7 fu (fX6_readExpr_5 fu 0) v1 k7 v2 g L) (fun (r : Unit) (g1 : Nat → Nat → Int32) (L1 : Nat → Nat → Int64) => zI XT g1 ∧ pJ g1 ∧ g1 2 2 = g0 2 2 ∧ g1 0 13 = g0 0 13)
    unfold fX6_readAnd_5_s7
    have J50 : ∀ (g : Nat → Nat → Int32) (L : Nat → Nat → Int64), zI XT g → pJ g → g 2 2 = g0 2 2 → g 0 13 = g0 0 13 → Ex (fX6_readAnd_5_p50 fu (fX6_readExpr_5 fu 0) g L) (fun (r : Unit) (g1 : Nat → Nat → Int32) (L1 : Nat → Nat → Int64) => zI XT g1 ∧ pJ g1 ∧ g1 2 2 = g0 2 2 ∧ g1 0 13 = g0 0 13) := by
      intro g L hI hJ k0_0 k0_1
      unfold fX6_readAnd_5_p50
      exact Ex.ret ⟨hI, hJ, k0_0, k0_1⟩
    refine Ex.ite (fun c6 => ?_) (fun c6 => ?_)
    ·
      have c6 := icc_le (m := 700) (n := (Int32.toInt v2)) (by decide) rfl c6
      exact J50 g L hI hJ k0_0 k0_1
    ·
      have c6 := icc_nle (m := 700) (n := (Int32.toInt v2)) (by decide) rfl c6
      refine Ex.cb (sX6_isWord_5_and fu hfu g L hI hJ) (fun x7 g8 L9 hq11 => ?_)
      obtain ⟨hI, hJ, kk0, kk1, rb_⟩ := hq11
      have b12 : 0 ≤ (Int32.toInt x7) ∧ (Int32.toInt x7) ≤ 1 := rb_
      have hI : zI XT g8 := hI
      have hJ : pJ g8 := hJ
      have k0_0 : g8 2 2 = g0 2 2 := kk0.trans k0_0
      have k0_1 : g8 0 13 = g0 0 13 := kk1.trans k0_1
      refine Ex.ite (fun c13 => ?_) (fun c13 => ?_)
      ·
        have c13 := icc_eq (m := (Int32.toInt x7)) (n := 0) rfl (by decide) c13
        exact J50 g8 L9 hI hJ k0_0 k0_1
      ·
        have c13 := icc_neq (m := (Int32.toInt x7)) (n := 0) rfl (by decide) c13
        refine Ex.cb (sX6_advance_5 fu hfu g8 L9 hI hJ) (fun x14 g15 L16 hq18 => ?_)
        obtain ⟨hI, hJ, kk0, kk1⟩ := hq18
        have hI : zI XT g15 := hI
        have hJ : pJ g15 := hJ
        have k0_0 : g15 2 2 = g0 2 2 := kk0.trans k0_0
        have k0_1 : g15 0 13 = g0 0 13 := kk1.trans k0_1
        refine Ex.cb (sX6_readNot_5_L1 fu hfu v1 g15 L16 hI hJ (by omega)) (fun x19 g20 L21 hq23 => ?_)
        obtain ⟨hI, hJ, kk0, kk1⟩ := hq23
        have hI : zI XT g20 := hI
        have hJ : pJ g20 := hJ
        have k0_0 : g20 2 2 = g0 2 2 := kk0.trans k0_0
        have k0_1 : g20 0 13 = g0 0 13 := kk1.trans k0_1
        refine Ex.cb (sX8_add_4 fu hfu (-13) g20 L21 hI hJ) (fun x24 g25 L26 hq28 => ?_)
        obtain ⟨hI, hJ, kk0, kk1⟩ := hq28
        have hI : zI XT g25 := hI
        have hJ : pJ g25 := hJ
        have k0_0 : g25 2 2 = g0 2 2 := kk0.trans k0_0
        have k0_1 : g25 0 13 = g0 0 13 := kk1.trans k0_1
        generalize z29q : (v2 + 1) = z29
        have e30 : (Int32.toInt z29) = (Int32.toInt v2) + 1 := by rw [← z29q]; exact ic_addc rfl (by decide) (by omega) (by omega)
        exact ih7 (z29, g25, L26) ⟨(show (6 ≤ (Int32.toInt v1) ∧ (Int32.toInt v1) ≤ 6) from by omega), (show (0 ≤ (Int32.toInt z29) ∧ (Int32.toInt z29) ≤ 700) from by omega), hI, hJ, k0_0, k0_1⟩ (by show 701 - (Int32.toInt z29) < _; omega) (by omega)
  exact lp7 p1 0 g2 L3 (by omega) (by decide) hI hJ k0_0 k0_1
set_option maxHeartbeats 4000000 in
set_option maxRecDepth 100000 in
theorem sX6_isWord_5_or (fu : Nat) (hfu : 1180591620717411303424 ≤ fu) (g0 : Nat → Nat → Int32) (L0 : Nat → Nat → Int64) (hI : zI XT g0) (hJ : pJ g0) : Ex (fX6_isWord_5_or fu g0 L0) (fun (r : Int32) (g1 : Nat → Nat → Int32) (L1 : Nat → Nat → Int64) => zI XT g1 ∧ pJ g1 ∧ g1 2 2 = g0 2 2 ∧ g1 0 13 = g0 0 13 ∧ (0 ≤ (Int32.toInt r) ∧ (Int32.toInt r) ≤ 1)) := by
  have k0_0 : g0 2 2 = g0 2 2 := rfl
  have k0_1 : g0 0 13 = g0 0 13 := rfl
  unfold fX6_isWord_5_or
  have J24 : ∀ (g : Nat → Nat → Int32) (L : Nat → Nat → Int64), zI XT g → pJ g → g 2 2 = g0 2 2 → g 0 13 = g0 0 13 → Ex (fX6_isWord_5_or_p24 fu g L) (fun (r : Int32) (g1 : Nat → Nat → Int32) (L1 : Nat → Nat → Int64) => zI XT g1 ∧ pJ g1 ∧ g1 2 2 = g0 2 2 ∧ g1 0 13 = g0 0 13 ∧ (0 ≤ (Int32.toInt r) ∧ (Int32.toInt r) ≤ 1)) := by
    intro g L hI hJ k0_0 k0_1
    unfold fX6_isWord_5_or_p24
    refine Ex.ckb rfl ?_
    exact Ex.ret ⟨hI, hJ, k0_0, k0_1, (by decide)⟩
  refine Ex.ite (fun c1 => ?_) (fun c1 => ?_)
  ·
    have c1 := icc_eq (m := (Int32.toInt (g0 5 4))) (n := 2) rfl (by decide) c1
    have b2 : 0 ≤ (Int32.toInt (g0 5 3)) ∧ (Int32.toInt (g0 5 3)) ≤ 700 := hI 5 3 0 700 rfl
    have b3 : 0 ≤ (Int32.toInt (g0 5 5)) ∧ (Int32.toInt (g0 5 5)) ≤ 700 := hI 5 5 0 700 rfl
    generalize z4q : ((g0 5 3) - (g0 5 5)) = z4
    have e5 : (Int32.toInt z4) = (Int32.toInt (g0 5 3)) - (Int32.toInt (g0 5 5)) := by rw [← z4q]; exact ic_subc rfl rfl (by omega) (by omega)
    refine Ex.ite (fun c6 => ?_) (fun c6 => ?_)
    ·
      have c6 := icc_eq (m := (Int32.toInt z4)) (n := 2) rfl (by decide) c6
      have lp28 : ∀ (v2 : Int32) (g : Nat → Nat → Int32) (L : Nat → Nat → Int64), (0 ≤ (Int32.toInt v2) ∧ (Int32.toInt v2) ≤ 2) → ((Int32.toInt (g 5 5)) = (Int32.toInt (g0 5 5))) → zI XT g → pJ g → g 2 2 = g0 2 2 → g 0 13 = g0 0 13 → Ex (fX6_isWord_5_or_l28 fu v2 g L) (fun (r : Int32) (g1 : Nat → Nat → Int32) (L1 : Nat → Nat → Int64) => zI XT g1 ∧ pJ g1 ∧ g1 2 2 = g0 2 2 ∧ g1 0 13 = g0 0 13 ∧ (0 ≤ (Int32.toInt r) ∧ (Int32.toInt r) ≤ 1)) := by
        intro v2 g L hb_v2 hn_0 hI hJ k0_0 k0_1
        unfold fX6_isWord_5_or_l28
        refine Ex.loop (fun v => ((0 ≤ (Int32.toInt (v.1)) ∧ (Int32.toInt (v.1)) ≤ 2)) ∧ (((Int32.toInt ((v.2.1) 5 5)) = (Int32.toInt (g0 5 5)))) ∧ (zI XT (v.2.1)) ∧ (pJ (v.2.1)) ∧ ((v.2.1) 2 2 = g0 2 2) ∧ ((v.2.1) 0 13 = g0 0 13)) (fun v => 3 - (Int32.toInt (v.1))) (by omega) (by show 3 - (Int32.toInt v2) < (fu : Int); omega) ⟨hb_v2, hn_0, hI, hJ, k0_0, k0_1⟩ (fun k28 v hv ih28 => ?_)
        obtain ⟨v2, g, L⟩ := v
        obtain ⟨hb_v2, hn_0, hI, hJ, k0_0, k0_1⟩ := hv
        have hb_v2 : (0 ≤ (Int32.toInt v2) ∧ (Int32.toInt v2) ≤ 2) := hb_v2
        have hn_0 : ((Int32.toInt (g 5 5)) = (Int32.toInt (g0 5 5))) := hn_0
        have hI : zI XT g := hI
        have hJ : pJ g := hJ
        have k0_0 : g 2 2 = g0 2 2 := k0_0
        have k0_1 : g 0 13 = g0 0 13 := k0_1
        have ih28 : ∀ v' : Int32 × (Nat → Nat → Int32) × (Nat → Nat → Int64), (((0 ≤ (Int32.toInt (v'.1)) ∧ (Int32.toInt (v'.1)) ≤ 2)) ∧ (((Int32.toInt ((v'.2.1) 5 5)) = (Int32.toInt (g0 5 5)))) ∧ (zI XT (v'.2.1)) ∧ (pJ (v'.2.1)) ∧ ((v'.2.1) 2 2 = g0 2 2) ∧ ((v'.2.1) 0 13 = g0 0 13)) → 3 - (Int32.toInt (v'.1)) < 3 - (Int32.toInt v2) → 0 < 3 - (Int32.toInt v2) → Ex (k28 v') (fun (r : Int32) (g1 : Nat → Nat → Int32) (L1 : Nat → Nat → Int64) => zI XT g1 ∧ pJ g1 ∧ g1 2 2 = g0 2 2 ∧ g1 0 13 = g0 0 13 ∧ (0 ≤ (Int32.toInt r) ∧ (Int32.toInt r) ≤ 1)) := ih28
        show Ex (fX6_isWord_5_or_s28 fu k28 v2 g L) (fun (r : Int32) (g1 : Nat → Nat → Int32) (L1 : Nat → Nat → Int64) => zI XT g1 ∧ pJ g1 ∧ g1 2 2 = g0 2 2 ∧ g1 0 13 = g0 0 13 ∧ (0 ≤ (Int32.toInt r) ∧ (Int32.toInt r) ≤ 1))
        unfold fX6_isWord_5_or_s28
        refine Ex.ite (fun c7 => ?_) (fun c7 => ?_)
        ·
          have c7 := icc_le (m := 2) (n := (Int32.toInt v2)) (by decide) rfl c7
          refine Ex.ckb rfl ?_
          exact Ex.ret ⟨hI, hJ, k0_0, k0_1, (by decide)⟩
        ·
          have c7 := icc_nle (m := 2) (n := (Int32.toInt v2)) (by decide) rfl c7
          have b8 : 0 ≤ (Int32.toInt (g 5 5)) ∧ (Int32.toInt (g 5 5)) ≤ 700 := hI 5 5 0 700 rfl
          generalize z9q : ((g 5 5) + v2) = z9
          have e10 : (Int32.toInt z9) = (Int32.toInt (g 5 5)) + (Int32.toInt v2) := by rw [← z9q]; exact ic_addc rfl rfl (by omega) (by omega)
          refine Ex.ck (by omega) (by omega) ?_
          have b11 : 0 ≤ (Int32.toInt (g 14 (Int32.toNatClampNeg z9))) ∧ (Int32.toInt (g 14 (Int32.toNatClampNeg z9))) ≤ 255 := hI 14 _ 0 255 rfl
          refine Ex.ck (by omega) (by omega) ?_
          refine Ex.ite (fun c12 => ?_) (fun c12 => ?_)
          ·
            have c12 := icc_eq (m := (Int32.toInt (g 14 (Int32.toNatClampNeg z9)))) (n := (Int32.toInt (sch 9 (Int32.toNatClampNeg v2)))) rfl rfl c12
            generalize z13q : (v2 + 1) = z13
            have e14 : (Int32.toInt z13) = (Int32.toInt v2) + 1 := by rw [← z13q]; exact ic_addc rfl (by decide) (by omega) (by omega)
            exact ih28 (z13, g, L) ⟨(show (0 ≤ (Int32.toInt z13) ∧ (Int32.toInt z13) ≤ 2) from by omega), (show ((Int32.toInt (g 5 5)) = (Int32.toInt (g0 5 5))) from by omega), hI, hJ, k0_0, k0_1⟩ (by show 3 - (Int32.toInt z13) < _; omega) (by omega)
          ·
            have c12 := icc_neq (m := (Int32.toInt (g 14 (Int32.toNatClampNeg z9)))) (n := (Int32.toInt (sch 9 (Int32.toNatClampNeg v2)))) rfl rfl c12
            refine Ex.ckb rfl ?_
            exact Ex.ret ⟨hI, hJ, k0_0, k0_1, (by decide)⟩
      have hc_ : (0 : Int32).toInt = 0 := by decide
      exact lp28 0 g0 L0 (by decide) (by omega) hI hJ k0_0 k0_1
    ·
      have c6 := icc_neq (m := (Int32.toInt z4)) (n := 2) rfl (by decide) c6
      exact J24 g0 L0 hI hJ k0_0 k0_1
  ·
    have c1 := icc_neq (m := (Int32.toInt (g0 5 4))) (n := 2) rfl (by decide) c1
    exact J24 g0 L0 hI hJ k0_0 k0_1
set_option maxHeartbeats 4000000 in
set_option maxRecDepth 100000 in
theorem sX6_readExpr_5_L1 (fu : Nat) (hfu : 1180591620717411303424 ≤ fu) (p1 : Int32) (g0 : Nat → Nat → Int32) (L0 : Nat → Nat → Int64) (hI : zI XT g0) (hJ : pJ g0) (hp1 : (6 ≤ (Int32.toInt p1) ∧ (Int32.toInt p1) ≤ 6)) : Ex (fX6_readExpr_5 fu 1 p1 g0 L0) (fun (r : Unit) (g1 : Nat → Nat → Int32) (L1 : Nat → Nat → Int64) => zI XT g1 ∧ pJ g1 ∧ g1 2 2 = g0 2 2 ∧ g1 0 13 = g0 0 13) := by
  have k0_0 : g0 2 2 = g0 2 2 := rfl
  have k0_1 : g0 0 13 = g0 0 13 := rfl
  rw [fX6_readExpr_5_succ]
  unfold fX6_readExpr_5B
  have J35 : ∀ (v1 : Int32) (g : Nat → Nat → Int32) (L : Nat → Nat → Int64), (6 ≤ (Int32.toInt v1) ∧ (Int32.toInt v1) ≤ 6) → zI XT g → pJ g → g 2 2 = g0 2 2 → g 0 13 = g0 0 13 → Ex (fX6_readExpr_5_p35 fu (fX6_readExpr_5 fu 0) v1 g L) (fun (r : Unit) (g1 : Nat → Nat → Int32) (L1 : Nat → Nat → Int64) => zI XT g1 ∧ pJ g1 ∧ g1 2 2 = g0 2 2 ∧ g1 0 13 = g0 0 13) := by
    intro v1 g L hb_v1 hI hJ k0_0 k0_1
    unfold fX6_readExpr_5_p35
    refine Ex.cb (sX6_readAnd_5_L1 fu hfu v1 g L hI hJ (by omega)) (fun x1 g2 L3 hq5 => ?_)
    obtain ⟨hI, hJ, kk0, kk1⟩ := hq5
    have hI : zI XT g2 := hI
    have hJ : pJ g2 := hJ
    have k0_0 : g2 2 2 = g0 2 2 := kk0.trans k0_0
    have k0_1 : g2 0 13 = g0 0 13 := kk1.trans k0_1
    have lp42 : ∀ (v1 : Int32) (v2 : Int32) (g : Nat → Nat → Int32) (L : Nat → Nat → Int64), (6 ≤ (Int32.toInt v1) ∧ (Int32.toInt v1) ≤ 6) → (0 ≤ (Int32.toInt v2) ∧ (Int32.toInt v2) ≤ 700) → zI XT g → pJ g → g 2 2 = g0 2 2 → g 0 13 = g0 0 13 → Ex (fX6_readExpr_5_l42 fu (fX6_readExpr_5 fu 0) v1 v2 g L) (fun (r : Unit) (g1 : Nat → Nat → Int32) (L1 : Nat → Nat → Int64) => zI XT g1 ∧ pJ g1 ∧ g1 2 2 = g0 2 2 ∧ g1 0 13 = g0 0 13) := by
      intro v1 v2 g L hb_v1 hb_v2 hI hJ k0_0 k0_1
      unfold fX6_readExpr_5_l42
      refine Ex.loop (fun v => ((6 ≤ (Int32.toInt v1) ∧ (Int32.toInt v1) ≤ 6)) ∧ ((0 ≤ (Int32.toInt (v.1)) ∧ (Int32.toInt (v.1)) ≤ 700)) ∧ (zI XT (v.2.1)) ∧ (pJ (v.2.1)) ∧ ((v.2.1) 2 2 = g0 2 2) ∧ ((v.2.1) 0 13 = g0 0 13)) (fun v => 701 - (Int32.toInt (v.1))) (by omega) (by show 701 - (Int32.toInt v2) < (fu : Int); omega) ⟨hb_v1, hb_v2, hI, hJ, k0_0, k0_1⟩ (fun k42 v hv ih42 => ?_)
      obtain ⟨v2, g, L⟩ := v
      obtain ⟨hb_v1, hb_v2, hI, hJ, k0_0, k0_1⟩ := hv
      have hb_v1 : (6 ≤ (Int32.toInt v1) ∧ (Int32.toInt v1) ≤ 6) := hb_v1
      have hb_v2 : (0 ≤ (Int32.toInt v2) ∧ (Int32.toInt v2) ≤ 700) := hb_v2
      have hI : zI XT g := hI
      have hJ : pJ g := hJ
      have k0_0 : g 2 2 = g0 2 2 := k0_0
      have k0_1 : g 0 13 = g0 0 13 := k0_1
      have ih42 : ∀ v' : Int32 × (Nat → Nat → Int32) × (Nat → Nat → Int64), (((6 ≤ (Int32.toInt v1) ∧ (Int32.toInt v1) ≤ 6)) ∧ ((0 ≤ (Int32.toInt (v'.1)) ∧ (Int32.toInt (v'.1)) ≤ 700)) ∧ (zI XT (v'.2.1)) ∧ (pJ (v'.2.1)) ∧ ((v'.2.1) 2 2 = g0 2 2) ∧ ((v'.2.1) 0 13 = g0 0 13)) → 701 - (Int32.toInt (v'.1)) < 701 - (Int32.toInt v2) → 0 < 701 - (Int32.toInt v2) → Ex (k42 v') (fun (r : Unit) (g1 : Nat → Nat → Int32) (L1 : Nat → Nat → Int64) => zI XT g1 ∧ pJ g1 ∧ g1 2 2 = g0 2 2 ∧ g1 0 13 = g0 0 13) := ih42
      show Ex (fX6_readExpr_5_s42 fu (fX6_readExpr_5 fu 0) v1 k42 v2 g L) (fun (r : Unit) (g1 : Nat → Nat → Int32) (L1 : Nat → Nat → Int64) => zI XT g1 ∧ pJ g1 ∧ g1 2 2 = g0 2 2 ∧ g1 0 13 = g0 0 13)
      unfold fX6_readExpr_5_s42
      have J85 : ∀ (g : Nat → Nat → Int32) (L : Nat → Nat → Int64), zI XT g → pJ g → g 2 2 = g0 2 2 → g 0 13 = g0 0 13 → Ex (fX6_readExpr_5_p85 fu (fX6_readExpr_5 fu 0) g L) (fun (r : Unit) (g1 : Nat → Nat → Int32) (L1 : Nat → Nat → Int64) => zI XT g1 ∧ pJ g1 ∧ g1 2 2 = g0 2 2 ∧ g1 0 13 = g0 0 13) := by
        intro g L hI hJ k0_0 k0_1
        unfold fX6_readExpr_5_p85
        exact Ex.ret ⟨hI, hJ, k0_0, k0_1⟩
      refine Ex.ite (fun c6 => ?_) (fun c6 => ?_)
      ·
        have c6 := icc_le (m := 700) (n := (Int32.toInt v2)) (by decide) rfl c6
        exact J85 g L hI hJ k0_0 k0_1
      ·
        have c6 := icc_nle (m := 700) (n := (Int32.toInt v2)) (by decide) rfl c6
        refine Ex.cb (sX6_isWord_5_or fu hfu g L hI hJ) (fun x7 g8 L9 hq11 => ?_)
        obtain ⟨hI, hJ, kk0, kk1, rb_⟩ := hq11
        have b12 : 0 ≤ (Int32.toInt x7) ∧ (Int32.toInt x7) ≤ 1 := rb_
        have hI : zI XT g8 := hI
        have hJ : pJ g8 := hJ
        have k0_0 : g8 2 2 = g0 2 2 := kk0.trans k0_0
        have k0_1 : g8 0 13 = g0 0 13 := kk1.trans k0_1
        refine Ex.ite (fun c13 => ?_) (fun c13 => ?_)
        ·
          have c13 := icc_eq (m := (Int32.toInt x7)) (n := 0) rfl (by decide) c13
          exact J85 g8 L9 hI hJ k0_0 k0_1
        ·
          have c13 := icc_neq (m := (Int32.toInt x7)) (n := 0) rfl (by decide) c13
          refine Ex.cb (sX6_advance_5 fu hfu g8 L9 hI hJ) (fun x14 g15 L16 hq18 => ?_)
          obtain ⟨hI, hJ, kk0, kk1⟩ := hq18
          have hI : zI XT g15 := hI
          have hJ : pJ g15 := hJ
          have k0_0 : g15 2 2 = g0 2 2 := kk0.trans k0_0
          have k0_1 : g15 0 13 = g0 0 13 := kk1.trans k0_1
          refine Ex.cb (sX6_readAnd_5_L1 fu hfu v1 g15 L16 hI hJ (by omega)) (fun x19 g20 L21 hq23 => ?_)
          obtain ⟨hI, hJ, kk0, kk1⟩ := hq23
          have hI : zI XT g20 := hI
          have hJ : pJ g20 := hJ
          have k0_0 : g20 2 2 = g0 2 2 := kk0.trans k0_0
          have k0_1 : g20 0 13 = g0 0 13 := kk1.trans k0_1
          refine Ex.cb (sX8_add_4 fu hfu (-14) g20 L21 hI hJ) (fun x24 g25 L26 hq28 => ?_)
          obtain ⟨hI, hJ, kk0, kk1⟩ := hq28
          have hI : zI XT g25 := hI
          have hJ : pJ g25 := hJ
          have k0_0 : g25 2 2 = g0 2 2 := kk0.trans k0_0
          have k0_1 : g25 0 13 = g0 0 13 := kk1.trans k0_1
          generalize z29q : (v2 + 1) = z29
          have e30 : (Int32.toInt z29) = (Int32.toInt v2) + 1 := by rw [← z29q]; exact ic_addc rfl (by decide) (by omega) (by omega)
          exact ih42 (z29, g25, L26) ⟨(show (6 ≤ (Int32.toInt v1) ∧ (Int32.toInt v1) ≤ 6) from by omega), (show (0 ≤ (Int32.toInt z29) ∧ (Int32.toInt z29) ≤ 700) from by omega), hI, hJ, k0_0, k0_1⟩ (by show 701 - (Int32.toInt z29) < _; omega) (by omega)
    exact lp42 v1 0 g2 L3 (by omega) (by decide) hI hJ k0_0 k0_1
  refine Ex.ite (fun c31 => ?_) (fun c31 => ?_)
  ·
    have c31 := icc_le (m := (Int32.toInt p1)) (n := 5) rfl (by decide) c31
    omega
  ·
    have c31 := icc_nle (m := (Int32.toInt p1)) (n := 5) rfl (by decide) c31
    have J30 : ∀ (v1 : Int32) (g : Nat → Nat → Int32) (L : Nat → Nat → Int64), (6 ≤ (Int32.toInt v1) ∧ (Int32.toInt v1) ≤ 6) → zI XT g → pJ g → g 2 2 = g0 2 2 → g 0 13 = g0 0 13 → Ex (fX6_readExpr_5_p30 fu (fX6_readExpr_5 fu 0) v1 g L) (fun (r : Unit) (g1 : Nat → Nat → Int32) (L1 : Nat → Nat → Int64) => zI XT g1 ∧ pJ g1 ∧ g1 2 2 = g0 2 2 ∧ g1 0 13 = g0 0 13) := by
      intro v1 g L hb_v1 hI hJ k0_0 k0_1
      unfold fX6_readExpr_5_p30
      refine Ex.cb (sX6_refuse_5 fu hfu 2 g L hI hJ) (fun x32 g33 L34 hq36 => ?_)
      obtain ⟨hI, hJ, kk0, kk1⟩ := hq36
      have hI : zI XT g33 := hI
      have hJ : pJ g33 := hJ
      have k0_0 : g33 2 2 = g0 2 2 := kk0.trans k0_0
      have k0_1 : g33 0 13 = g0 0 13 := kk1.trans k0_1
      exact J35 v1 g33 L34 (by omega) hI hJ k0_0 k0_1
    refine Ex.ite (fun c37 => ?_) (fun c37 => ?_)
    ·
      have c37 := icc_eq (m := (Int32.toInt (g0 5 4))) (n := 1) rfl (by decide) c37
      exact J30 p1 g0 L0 (by omega) hI hJ k0_0 k0_1
    ·
      have c37 := icc_neq (m := (Int32.toInt (g0 5 4))) (n := 1) rfl (by decide) c37
      refine Ex.ite (fun c38 => ?_) (fun c38 => ?_)
      ·
        have c38 := icc_eq (m := (Int32.toInt (g0 5 4))) (n := 2) rfl (by decide) c38
        exact J30 p1 g0 L0 (by omega) hI hJ k0_0 k0_1
      ·
        have c38 := icc_neq (m := (Int32.toInt (g0 5 4))) (n := 2) rfl (by decide) c38
        refine Ex.cb (sX6_isSignNow_5 fu hfu 40 g0 L0 hI hJ) (fun x39 g40 L41 hq43 => ?_)
        obtain ⟨hI, hJ, kk0, kk1, rb_⟩ := hq43
        have b44 : 0 ≤ (Int32.toInt x39) ∧ (Int32.toInt x39) ≤ 1 := rb_
        have hI : zI XT g40 := hI
        have hJ : pJ g40 := hJ
        have k0_0 : g40 2 2 = g0 2 2 := kk0.trans k0_0
        have k0_1 : g40 0 13 = g0 0 13 := kk1.trans k0_1
        refine Ex.ite (fun c45 => ?_) (fun c45 => ?_)
        ·
          have c45 := icc_eq (m := (Int32.toInt x39)) (n := 0) rfl (by decide) c45
          exact J35 p1 g40 L41 (by omega) hI hJ k0_0 k0_1
        ·
          have c45 := icc_neq (m := (Int32.toInt x39)) (n := 0) rfl (by decide) c45
          exact J30 p1 g40 L41 (by omega) hI hJ k0_0 k0_1
set_option maxHeartbeats 4000000 in
set_option maxRecDepth 100000 in
theorem sX6_readPart_5_L2 (fu : Nat) (hfu : 1180591620717411303424 ≤ fu) (p1 : Int32) (g0 : Nat → Nat → Int32) (L0 : Nat → Nat → Int64) (hI : zI XT g0) (hJ : pJ g0) (hp1 : (5 ≤ (Int32.toInt p1) ∧ (Int32.toInt p1) ≤ 5)) : Ex (fX6_readPart_5 fu (fX6_readExpr_5 fu 1) p1 g0 L0) (fun (r : Unit) (g1 : Nat → Nat → Int32) (L1 : Nat → Nat → Int64) => zI XT g1 ∧ pJ g1 ∧ g1 2 2 = g0 2 2 ∧ g1 0 13 = g0 0 13) := by
  have k0_0 : g0 2 2 = g0 2 2 := rfl
  have k0_1 : g0 0 13 = g0 0 13 := rfl
  unfold fX6_readPart_5
  have J111 : ∀ (g : Nat → Nat → Int32) (L : Nat → Nat → Int64), zI XT g → pJ g → g 2 2 = g0 2 2 → g 0 13 = g0 0 13 → Ex (fX6_readPart_5_p111 fu (fX6_readExpr_5 fu 1) g L) (fun (r : Unit) (g1 : Nat → Nat → Int32) (L1 : Nat → Nat → Int64) => zI XT g1 ∧ pJ g1 ∧ g1 2 2 = g0 2 2 ∧ g1 0 13 = g0 0 13) := by
    intro g L hI hJ k0_0 k0_1
    unfold fX6_readPart_5_p111
    exact Ex.ret ⟨hI, hJ, k0_0, k0_1⟩
  refine Ex.ite (fun c1 => ?_) (fun c1 => ?_)
  ·
    have c1 := icc_eq (m := (Int32.toInt (g0 5 4))) (n := 1) rfl (by decide) c1
    refine Ex.cb (sX6_readNumber_5 fu hfu 0 9999 g0 L0 hI hJ) (fun x2 g3 L4 hq6 => ?_)
    obtain ⟨hI, hJ, kk0, kk1, rb_⟩ := hq6
    have b7 : 0 ≤ (Int32.toInt x2) ∧ (Int32.toInt x2) ≤ 9999 := rb_
    have hI : zI XT g3 := hI
    have hJ : pJ g3 := hJ
    have k0_0 : g3 2 2 = g0 2 2 := kk0.trans k0_0
    have k0_1 : g3 0 13 = g0 0 13 := kk1.trans k0_1
    refine Ex.cb (sX8_add_4 fu hfu x2 g3 L4 hI hJ) (fun x8 g9 L10 hq12 => ?_)
    obtain ⟨hI, hJ, kk0, kk1⟩ := hq12
    have hI : zI XT g9 := hI
    have hJ : pJ g9 := hJ
    have k0_0 : g9 2 2 = g0 2 2 := kk0.trans k0_0
    have k0_1 : g9 0 13 = g0 0 13 := kk1.trans k0_1
    exact J111 g9 L10 hI hJ k0_0 k0_1
  ·
    have c1 := icc_neq (m := (Int32.toInt (g0 5 4))) (n := 1) rfl (by decide) c1
    refine Ex.ite (fun c13 => ?_) (fun c13 => ?_)
    ·
      have c13 := icc_eq (m := (Int32.toInt (g0 5 4))) (n := 2) rfl (by decide) c13
      refine Ex.cb (sX6_valueNow_5 fu hfu g0 L0 hI hJ) (fun x14 g15 L16 hq18 => ?_)
      obtain ⟨hI, hJ, kk0, kk1, rb_⟩ := hq18
      have b19 : (-1) ≤ (Int32.toInt x14) ∧ (Int32.toInt x14) ≤ 5 := rb_
      have hI : zI XT g15 := hI
      have hJ : pJ g15 := hJ
      have k0_0 : g15 2 2 = g0 2 2 := kk0.trans k0_0
      have k0_1 : g15 0 13 = g0 0 13 := kk1.trans k0_1
      have J52 : ∀ (v2 : Int32) (g : Nat → Nat → Int32) (L : Nat → Nat → Int64), ((-1) ≤ (Int32.toInt v2) ∧ (Int32.toInt v2) ≤ 5) → zI XT g → pJ g → g 2 2 = g0 2 2 → g 0 13 = g0 0 13 → Ex (fX6_readPart_5_p52 fu (fX6_readExpr_5 fu 1) v2 g L) (fun (r : Unit) (g1 : Nat → Nat → Int32) (L1 : Nat → Nat → Int64) => zI XT g1 ∧ pJ g1 ∧ g1 2 2 = g0 2 2 ∧ g1 0 13 = g0 0 13) := by
        intro v2 g L hb_v2 hI hJ k0_0 k0_1
        unfold fX6_readPart_5_p52
        generalize z20q : ((-1) - v2) = z20
        have e21 : (Int32.toInt z20) = (-1) - (Int32.toInt v2) := by rw [← z20q]; exact ic_subc (by decide) rfl (by omega) (by omega)
        refine Ex.cb (sX8_add_4 fu hfu z20 g L hI hJ) (fun x22 g23 L24 hq26 => ?_)
        obtain ⟨hI, hJ, kk0, kk1⟩ := hq26
        have hI : zI XT g23 := hI
        have hJ : pJ g23 := hJ
        have k0_0 : g23 2 2 = g0 2 2 := kk0.trans k0_0
        have k0_1 : g23 0 13 = g0 0 13 := kk1.trans k0_1
        refine Ex.cb (sX6_advance_5 fu hfu g23 L24 hI hJ) (fun x27 g28 L29 hq31 => ?_)
        obtain ⟨hI, hJ, kk0, kk1⟩ := hq31
        have hI : zI XT g28 := hI
        have hJ : pJ g28 := hJ
        have k0_0 : g28 2 2 = g0 2 2 := kk0.trans k0_0
        have k0_1 : g28 0 13 = g0 0 13 := kk1.trans k0_1
        exact J111 g28 L29 hI hJ k0_0 k0_1
      refine Ex.ite (fun c32 => ?_) (fun c32 => ?_)
      ·
        have c32 := icc_eq (m := (Int32.toInt x14)) (n := (-1)) rfl (by decide) c32
        refine Ex.cb (sX6_refuse_5 fu hfu 3 g15 L16 hI hJ) (fun x33 g34 L35 hq37 => ?_)
        obtain ⟨hI, hJ, kk0, kk1⟩ := hq37
        have hI : zI XT g34 := hI
        have hJ : pJ g34 := hJ
        have k0_0 : g34 2 2 = g0 2 2 := kk0.trans k0_0
        have k0_1 : g34 0 13 = g0 0 13 := kk1.trans k0_1
        exact J52 x14 g34 L35 (by omega) hI hJ k0_0 k0_1
      ·
        have c32 := icc_neq (m := (Int32.toInt x14)) (n := (-1)) rfl (by decide) c32
        exact J52 x14 g15 L16 (by omega) hI hJ k0_0 k0_1
    ·
      have c13 := icc_neq (m := (Int32.toInt (g0 5 4))) (n := 2) rfl (by decide) c13
      refine Ex.cb (sX6_isSignNow_5 fu hfu 40 g0 L0 hI hJ) (fun x38 g39 L40 hq42 => ?_)
      obtain ⟨hI, hJ, kk0, kk1, rb_⟩ := hq42
      have b43 : 0 ≤ (Int32.toInt x38) ∧ (Int32.toInt x38) ≤ 1 := rb_
      have hI : zI XT g39 := hI
      have hJ : pJ g39 := hJ
      have k0_0 : g39 2 2 = g0 2 2 := kk0.trans k0_0
      have k0_1 : g39 0 13 = g0 0 13 := kk1.trans k0_1
      have J106 : ∀ (g : Nat → Nat → Int32) (L : Nat → Nat → Int64), zI XT g → pJ g → g 2 2 = g0 2 2 → g 0 13 = g0 0 13 → Ex (fX6_readPart_5_p106 fu (fX6_readExpr_5 fu 1) g L) (fun (r : Unit) (g1 : Nat → Nat → Int32) (L1 : Nat → Nat → Int64) => zI XT g1 ∧ pJ g1 ∧ g1 2 2 = g0 2 2 ∧ g1 0 13 = g0 0 13) := by
        intro g L hI hJ k0_0 k0_1
        unfold fX6_readPart_5_p106
        refine Ex.cb (sX6_refuse_5 fu hfu 1 g L hI hJ) (fun x44 g45 L46 hq48 => ?_)
        obtain ⟨hI, hJ, kk0, kk1⟩ := hq48
        have hI : zI XT g45 := hI
        have hJ : pJ g45 := hJ
        have k0_0 : g45 2 2 = g0 2 2 := kk0.trans k0_0
        have k0_1 : g45 0 13 = g0 0 13 := kk1.trans k0_1
        exact J111 g45 L46 hI hJ k0_0 k0_1
      refine Ex.ite (fun c49 => ?_) (fun c49 => ?_)
      ·
        have c49 := icc_eq (m := (Int32.toInt x38)) (n := 0) rfl (by decide) c49
        exact J106 g39 L40 hI hJ k0_0 k0_1
      ·
        have c49 := icc_neq (m := (Int32.toInt x38)) (n := 0) rfl (by decide) c49
        refine Ex.ite (fun c50 => ?_) (fun c50 => ?_)
        ·
          have c50 := icc_lt (m := 5) (n := (Int32.toInt p1)) (by decide) rfl c50
          omega
        ·
          have c50 := icc_nlt (m := 5) (n := (Int32.toInt p1)) (by decide) rfl c50
          refine Ex.cb (sX6_advance_5 fu hfu g39 L40 hI hJ) (fun x51 g52 L53 hq55 => ?_)
          obtain ⟨hI, hJ, kk0, kk1⟩ := hq55
          have hI : zI XT g52 := hI
          have hJ : pJ g52 := hJ
          have k0_0 : g52 2 2 = g0 2 2 := kk0.trans k0_0
          have k0_1 : g52 0 13 = g0 0 13 := kk1.trans k0_1
          generalize z56q : (p1 + 1) = z56
          have e57 : (Int32.toInt z56) = (Int32.toInt p1) + 1 := by rw [← z56q]; exact ic_addc rfl (by decide) (by omega) (by omega)
          refine Ex.cb (sX6_readExpr_5_L1 fu hfu z56 g52 L53 hI hJ (by omega)) (fun x58 g59 L60 hq62 => ?_)
          obtain ⟨hI, hJ, kk0, kk1⟩ := hq62
          have hI : zI XT g59 := hI
          have hJ : pJ g59 := hJ
          have k0_0 : g59 2 2 = g0 2 2 := kk0.trans k0_0
          have k0_1 : g59 0 13 = g0 0 13 := kk1.trans k0_1
          refine Ex.cb (sX6_readSign_5 fu hfu 41 g59 L60 hI hJ) (fun x63 g64 L65 hq67 => ?_)
          obtain ⟨hI, hJ, kk0, kk1⟩ := hq67
          have hI : zI XT g64 := hI
          have hJ : pJ g64 := hJ
          have k0_0 : g64 2 2 = g0 2 2 := kk0.trans k0_0
          have k0_1 : g64 0 13 = g0 0 13 := kk1.trans k0_1
          exact J111 g64 L65 hI hJ k0_0 k0_1
set_option maxHeartbeats 4000000 in
set_option maxRecDepth 100000 in
theorem sX6_readProduct_5_L2 (fu : Nat) (hfu : 1180591620717411303424 ≤ fu) (p1 : Int32) (g0 : Nat → Nat → Int32) (L0 : Nat → Nat → Int64) (hI : zI XT g0) (hJ : pJ g0) (hp1 : (5 ≤ (Int32.toInt p1) ∧ (Int32.toInt p1) ≤ 5)) : Ex (fX6_readProduct_5 fu (fX6_readExpr_5 fu 1) p1 g0 L0) (fun (r : Unit) (g1 : Nat → Nat → Int32) (L1 : Nat → Nat → Int64) => zI XT g1 ∧ pJ g1 ∧ g1 2 2 = g0 2 2 ∧ g1 0 13 = g0 0 13) := by
  have k0_0 : g0 2 2 = g0 2 2 := rfl
  have k0_1 : g0 0 13 = g0 0 13 := rfl
  unfold fX6_readProduct_5
  refine Ex.cb (sX6_readPart_5_L2 fu hfu p1 g0 L0 hI hJ (by omega)) (fun x1 g2 L3 hq5 => ?_)
  obtain ⟨hI, hJ, kk0, kk1⟩ := hq5
  have hI : zI XT g2 := hI
  have hJ : pJ g2 := hJ
  have k0_0 : g2 2 2 = g0 2 2 := kk0.trans k0_0
  have k0_1 : g2 0 13 = g0 0 13 := kk1.trans k0_1
  have lp7 : ∀ (v1 : Int32) (v2 : Int32) (g : Nat → Nat → Int32) (L : Nat → Nat → Int64), (5 ≤ (Int32.toInt v1) ∧ (Int32.toInt v1) ≤ 5) → (0 ≤ (Int32.toInt v2) ∧ (Int32.toInt v2) ≤ 700) → zI XT g → pJ g → g 2 2 = g0 2 2 → g 0 13 = g0 0 13 → Ex (fX6_readProduct_5_l7 fu (fX6_readExpr_5 fu 1) v1 v2 g L) (fun (r : Unit) (g1 : Nat → Nat → Int32) (L1 : Nat → Nat → Int64) => zI XT g1 ∧ pJ g1 ∧ g1 2 2 = g0 2 2 ∧ g1 0 13 = g0 0 13) := by
    intro v1 v2 g L hb_v1 hb_v2 hI hJ k0_0 k0_1
    unfold fX6_readProduct_5_l7
    refine Ex.loop (fun v => ((5 ≤ (Int32.toInt v1) ∧ (Int32.toInt v1) ≤ 5)) ∧ ((0 ≤ (Int32.toInt (v.1)) ∧ (Int32.toInt (v.1)) ≤ 700)) ∧ (zI XT (v.2.1)) ∧ (pJ (v.2.1)) ∧ ((v.2.1) 2 2 = g0 2 2) ∧ ((v.2.1) 0 13 = g0 0 13)) (fun v => 701 - (Int32.toInt (v.1))) (by omega) (by show 701 - (Int32.toInt v2) < (fu : Int); omega) ⟨hb_v1, hb_v2, hI, hJ, k0_0, k0_1⟩ (fun k7 v hv ih7 => ?_)
    obtain ⟨v2, g, L⟩ := v
    obtain ⟨hb_v1, hb_v2, hI, hJ, k0_0, k0_1⟩ := hv
    have hb_v1 : (5 ≤ (Int32.toInt v1) ∧ (Int32.toInt v1) ≤ 5) := hb_v1
    have hb_v2 : (0 ≤ (Int32.toInt v2) ∧ (Int32.toInt v2) ≤ 700) := hb_v2
    have hI : zI XT g := hI
    have hJ : pJ g := hJ
    have k0_0 : g 2 2 = g0 2 2 := k0_0
    have k0_1 : g 0 13 = g0 0 13 := k0_1
    have ih7 : ∀ v' : Int32 × (Nat → Nat → Int32) × (Nat → Nat → Int64), (((5 ≤ (Int32.toInt v1) ∧ (Int32.toInt v1) ≤ 5)) ∧ ((0 ≤ (Int32.toInt (v'.1)) ∧ (Int32.toInt (v'.1)) ≤ 700)) ∧ (zI XT (v'.2.1)) ∧ (pJ (v'.2.1)) ∧ ((v'.2.1) 2 2 = g0 2 2) ∧ ((v'.2.1) 0 13 = g0 0 13)) → 701 - (Int32.toInt (v'.1)) < 701 - (Int32.toInt v2) → 0 < 701 - (Int32.toInt v2) → Ex (k7 v') (fun (r : Unit) (g1 : Nat → Nat → Int32) (L1 : Nat → Nat → Int64) => zI XT g1 ∧ pJ g1 ∧ g1 2 2 = g0 2 2 ∧ g1 0 13 = g0 0 13) := ih7
    show Ex (fX6_readProduct_5_s7 fu (fX6_readExpr_5 fu 1) v1 k7 v2 g L) (fun (r : Unit) (g1 : Nat → Nat → Int32) (L1 : Nat → Nat → Int64) => zI XT g1 ∧ pJ g1 ∧ g1 2 2 = g0 2 2 ∧ g1 0 13 = g0 0 13)
    unfold fX6_readProduct_5_s7
    have J75 : ∀ (g : Nat → Nat → Int32) (L : Nat → Nat → Int64), zI XT g → pJ g → g 2 2 = g0 2 2 → g 0 13 = g0 0 13 → Ex (fX6_readProduct_5_p75 fu (fX6_readExpr_5 fu 1) g L) (fun (r : Unit) (g1 : Nat → Nat → Int32) (L1 : Nat → Nat → Int64) => zI XT g1 ∧ pJ g1 ∧ g1 2 2 = g0 2 2 ∧ g1 0 13 = g0 0 13) := by
      intro g L hI hJ k0_0 k0_1
      unfold fX6_readProduct_5_p75
      exact Ex.ret ⟨hI, hJ, k0_0, k0_1⟩
    refine Ex.ite (fun c6 => ?_) (fun c6 => ?_)
    ·
      have c6 := icc_le (m := 700) (n := (Int32.toInt v2)) (by decide) rfl c6
      exact J75 g L hI hJ k0_0 k0_1
    ·
      have c6 := icc_nle (m := 700) (n := (Int32.toInt v2)) (by decide) rfl c6
      refine Ex.cb (sX6_isSignNow_5 fu hfu 42 g L hI hJ) (fun x7 g8 L9 hq11 => ?_)
      obtain ⟨hI, hJ, kk0, kk1, rb_⟩ := hq11
      have b12 : 0 ≤ (Int32.toInt x7) ∧ (Int32.toInt x7) ≤ 1 := rb_
      have hI : zI XT g8 := hI
      have hJ : pJ g8 := hJ
      have k0_0 : g8 2 2 = g0 2 2 := kk0.trans k0_0
      have k0_1 : g8 0 13 = g0 0 13 := kk1.trans k0_1
      have J32 : ∀ (g : Nat → Nat → Int32) (L : Nat → Nat → Int64), (5 ≤ (Int32.toInt v1) ∧ (Int32.toInt v1) ≤ 5) → (0 ≤ (Int32.toInt v2) ∧ (Int32.toInt v2) ≤ 699) → zI XT g → pJ g → g 2 2 = g0 2 2 → g 0 13 = g0 0 13 → Ex (fX6_readProduct_5_p32 fu (fX6_readExpr_5 fu 1) k7 v1 v2 g L) (fun (r : Unit) (g1 : Nat → Nat → Int32) (L1 : Nat → Nat → Int64) => zI XT g1 ∧ pJ g1 ∧ g1 2 2 = g0 2 2 ∧ g1 0 13 = g0 0 13) := by
        intro g L hb_v1 hb_v2 hI hJ k0_0 k0_1
        unfold fX6_readProduct_5_p32
        refine Ex.cb (sX6_isSignNow_5 fu hfu 42 g L hI hJ) (fun x13 g14 L15 hq17 => ?_)
        obtain ⟨hI, hJ, kk0, kk1, rb_⟩ := hq17
        have b18 : 0 ≤ (Int32.toInt x13) ∧ (Int32.toInt x13) ≤ 1 := rb_
        have hI : zI XT g14 := hI
        have hJ : pJ g14 := hJ
        have k0_0 : g14 2 2 = g0 2 2 := kk0.trans k0_0
        have k0_1 : g14 0 13 = g0 0 13 := kk1.trans k0_1
        have J48 : ∀ (t0 : Int32) (g : Nat → Nat → Int32) (L : Nat → Nat → Int64), (5 ≤ (Int32.toInt v1) ∧ (Int32.toInt v1) ≤ 5) → (0 ≤ (Int32.toInt v2) ∧ (Int32.toInt v2) ≤ 699) → ((-10) ≤ (Int32.toInt t0) ∧ (Int32.toInt t0) ≤ (-9)) → zI XT g → pJ g → g 2 2 = g0 2 2 → g 0 13 = g0 0 13 → Ex (fX6_readProduct_5_p48 fu (fX6_readExpr_5 fu 1) k7 v1 v2 t0 g L) (fun (r : Unit) (g1 : Nat → Nat → Int32) (L1 : Nat → Nat → Int64) => zI XT g1 ∧ pJ g1 ∧ g1 2 2 = g0 2 2 ∧ g1 0 13 = g0 0 13) := by
          intro t0 g L hb_v1 hb_v2 hb_t0 hI hJ k0_0 k0_1
          unfold fX6_readProduct_5_p48
          refine Ex.cb (sX6_advance_5 fu hfu g L hI hJ) (fun x19 g20 L21 hq23 => ?_)
          obtain ⟨hI, hJ, kk0, kk1⟩ := hq23
          have hI : zI XT g20 := hI
          have hJ : pJ g20 := hJ
          have k0_0 : g20 2 2 = g0 2 2 := kk0.trans k0_0
          have k0_1 : g20 0 13 = g0 0 13 := kk1.trans k0_1
          refine Ex.cb (sX6_readPart_5_L2 fu hfu v1 g20 L21 hI hJ (by omega)) (fun x24 g25 L26 hq28 => ?_)
          obtain ⟨hI, hJ, kk0, kk1⟩ := hq28
          have hI : zI XT g25 := hI
          have hJ : pJ g25 := hJ
          have k0_0 : g25 2 2 = g0 2 2 := kk0.trans k0_0
          have k0_1 : g25 0 13 = g0 0 13 := kk1.trans k0_1
          refine Ex.cb (sX8_add_4 fu hfu t0 g25 L26 hI hJ) (fun x29 g30 L31 hq33 => ?_)
          obtain ⟨hI, hJ, kk0, kk1⟩ := hq33
          have hI : zI XT g30 := hI
          have hJ : pJ g30 := hJ
          have k0_0 : g30 2 2 = g0 2 2 := kk0.trans k0_0
          have k0_1 : g30 0 13 = g0 0 13 := kk1.trans k0_1
          generalize z34q : (v2 + 1) = z34
          have e35 : (Int32.toInt z34) = (Int32.toInt v2) + 1 := by rw [← z34q]; exact ic_addc rfl (by decide) (by omega) (by omega)
          exact ih7 (z34, g30, L31) ⟨(show (5 ≤ (Int32.toInt v1) ∧ (Int32.toInt v1) ≤ 5) from by omega), (show (0 ≤ (Int32.toInt z34) ∧ (Int32.toInt z34) ≤ 700) from by omega), hI, hJ, k0_0, k0_1⟩ (by show 701 - (Int32.toInt z34) < _; omega) (by omega)
        refine Ex.ite (fun c36 => ?_) (fun c36 => ?_)
        ·
          have c36 := icc_eq (m := (Int32.toInt x13)) (n := 0) rfl (by decide) c36
          exact J48 (-10) g14 L15 (by omega) (by omega) (by decide) hI hJ k0_0 k0_1
        ·
          have c36 := icc_neq (m := (Int32.toInt x13)) (n := 0) rfl (by decide) c36
          exact J48 (-9) g14 L15 (by omega) (by omega) (by decide) hI hJ k0_0 k0_1
      refine Ex.ite (fun c37 => ?_) (fun c37 => ?_)
      ·
        have c37 := icc_eq (m := (Int32.toInt x7)) (n := 0) rfl (by decide) c37
        refine Ex.cb (sX6_isSignNow_5 fu hfu 47 g8 L9 hI hJ) (fun x38 g39 L40 hq42 => ?_)
        obtain ⟨hI, hJ, kk0, kk1, rb_⟩ := hq42
        have b43 : 0 ≤ (Int32.toInt x38) ∧ (Int32.toInt x38) ≤ 1 := rb_
        have hI : zI XT g39 := hI
        have hJ : pJ g39 := hJ
        have k0_0 : g39 2 2 = g0 2 2 := kk0.trans k0_0
        have k0_1 : g39 0 13 = g0 0 13 := kk1.trans k0_1
        refine Ex.ite (fun c44 => ?_) (fun c44 => ?_)
        ·
          have c44 := icc_eq (m := (Int32.toInt x38)) (n := 0) rfl (by decide) c44
          exact J75 g39 L40 hI hJ k0_0 k0_1
        ·
          have c44 := icc_neq (m := (Int32.toInt x38)) (n := 0) rfl (by decide) c44
          exact J32 g39 L40 (by omega) (by omega) hI hJ k0_0 k0_1
      ·
        have c37 := icc_neq (m := (Int32.toInt x7)) (n := 0) rfl (by decide) c37
        exact J32 g8 L9 (by omega) (by omega) hI hJ k0_0 k0_1
  exact lp7 p1 0 g2 L3 (by omega) (by decide) hI hJ k0_0 k0_1
set_option maxHeartbeats 4000000 in
set_option maxRecDepth 100000 in
theorem sX6_readSum_5_L2 (fu : Nat) (hfu : 1180591620717411303424 ≤ fu) (p1 : Int32) (g0 : Nat → Nat → Int32) (L0 : Nat → Nat → Int64) (hI : zI XT g0) (hJ : pJ g0) (hp1 : (5 ≤ (Int32.toInt p1) ∧ (Int32.toInt p1) ≤ 5)) : Ex (fX6_readSum_5 fu (fX6_readExpr_5 fu 1) p1 g0 L0) (fun (r : Unit) (g1 : Nat → Nat → Int32) (L1 : Nat → Nat → Int64) => zI XT g1 ∧ pJ g1 ∧ g1 2 2 = g0 2 2 ∧ g1 0 13 = g0 0 13) := by
  have k0_0 : g0 2 2 = g0 2 2 := rfl
  have k0_1 : g0 0 13 = g0 0 13 := rfl
  unfold fX6_readSum_5
  refine Ex.cb (sX6_readProduct_5_L2 fu hfu p1 g0 L0 hI hJ (by omega)) (fun x1 g2 L3 hq5 => ?_)
  obtain ⟨hI, hJ, kk0, kk1⟩ := hq5
  have hI : zI XT g2 := hI
  have hJ : pJ g2 := hJ
  have k0_0 : g2 2 2 = g0 2 2 := kk0.trans k0_0
  have k0_1 : g2 0 13 = g0 0 13 := kk1.trans k0_1
  have lp7 : ∀ (v1 : Int32) (v2 : Int32) (g : Nat → Nat → Int32) (L : Nat → Nat → Int64), (5 ≤ (Int32.toInt v1) ∧ (Int32.toInt v1) ≤ 5) → (0 ≤ (Int32.toInt v2) ∧ (Int32.toInt v2) ≤ 700) → zI XT g → pJ g → g 2 2 = g0 2 2 → g 0 13 = g0 0 13 → Ex (fX6_readSum_5_l7 fu (fX6_readExpr_5 fu 1) v1 v2 g L) (fun (r : Unit) (g1 : Nat → Nat → Int32) (L1 : Nat → Nat → Int64) => zI XT g1 ∧ pJ g1 ∧ g1 2 2 = g0 2 2 ∧ g1 0 13 = g0 0 13) := by
    intro v1 v2 g L hb_v1 hb_v2 hI hJ k0_0 k0_1
    unfold fX6_readSum_5_l7
    refine Ex.loop (fun v => ((5 ≤ (Int32.toInt v1) ∧ (Int32.toInt v1) ≤ 5)) ∧ ((0 ≤ (Int32.toInt (v.1)) ∧ (Int32.toInt (v.1)) ≤ 700)) ∧ (zI XT (v.2.1)) ∧ (pJ (v.2.1)) ∧ ((v.2.1) 2 2 = g0 2 2) ∧ ((v.2.1) 0 13 = g0 0 13)) (fun v => 701 - (Int32.toInt (v.1))) (by omega) (by show 701 - (Int32.toInt v2) < (fu : Int); omega) ⟨hb_v1, hb_v2, hI, hJ, k0_0, k0_1⟩ (fun k7 v hv ih7 => ?_)
    obtain ⟨v2, g, L⟩ := v
    obtain ⟨hb_v1, hb_v2, hI, hJ, k0_0, k0_1⟩ := hv
    have hb_v1 : (5 ≤ (Int32.toInt v1) ∧ (Int32.toInt v1) ≤ 5) := hb_v1
    have hb_v2 : (0 ≤ (Int32.toInt v2) ∧ (Int32.toInt v2) ≤ 700) := hb_v2
    have hI : zI XT g := hI
    have hJ : pJ g := hJ
    have k0_0 : g 2 2 = g0 2 2 := k0_0
    have k0_1 : g 0 13 = g0 0 13 := k0_1
    have ih7 : ∀ v' : Int32 × (Nat → Nat → Int32) × (Nat → Nat → Int64), (((5 ≤ (Int32.toInt v1) ∧ (Int32.toInt v1) ≤ 5)) ∧ ((0 ≤ (Int32.toInt (v'.1)) ∧ (Int32.toInt (v'.1)) ≤ 700)) ∧ (zI XT (v'.2.1)) ∧ (pJ (v'.2.1)) ∧ ((v'.2.1) 2 2 = g0 2 2) ∧ ((v'.2.1) 0 13 = g0 0 13)) → 701 - (Int32.toInt (v'.1)) < 701 - (Int32.toInt v2) → 0 < 701 - (Int32.toInt v2) → Ex (k7 v') (fun (r : Unit) (g1 : Nat → Nat → Int32) (L1 : Nat → Nat → Int64) => zI XT g1 ∧ pJ g1 ∧ g1 2 2 = g0 2 2 ∧ g1 0 13 = g0 0 13) := ih7
    show Ex (fX6_readSum_5_s7 fu (fX6_readExpr_5 fu 1) v1 k7 v2 g L) (fun (r : Unit) (g1 : Nat → Nat → Int32) (L1 : Nat → Nat → Int64) => zI XT g1 ∧ pJ g1 ∧ g1 2 2 = g0 2 2 ∧ g1 0 13 = g0 0 13)
    unfold fX6_readSum_5_s7
    have J75 : ∀ (g : Nat → Nat → Int32) (L : Nat → Nat → Int64), zI XT g → pJ g → g 2 2 = g0 2 2 → g 0 13 = g0 0 13 → Ex (fX6_readSum_5_p75 fu (fX6_readExpr_5 fu 1) g L) (fun (r : Unit) (g1 : Nat → Nat → Int32) (L1 : Nat → Nat → Int64) => zI XT g1 ∧ pJ g1 ∧ g1 2 2 = g0 2 2 ∧ g1 0 13 = g0 0 13) := by
      intro g L hI hJ k0_0 k0_1
      unfold fX6_readSum_5_p75
      exact Ex.ret ⟨hI, hJ, k0_0, k0_1⟩
    refine Ex.ite (fun c6 => ?_) (fun c6 => ?_)
    ·
      have c6 := icc_le (m := 700) (n := (Int32.toInt v2)) (by decide) rfl c6
      exact J75 g L hI hJ k0_0 k0_1
    ·
      have c6 := icc_nle (m := 700) (n := (Int32.toInt v2)) (by decide) rfl c6
      refine Ex.cb (sX6_isSignNow_5 fu hfu 43 g L hI hJ) (fun x7 g8 L9 hq11 => ?_)
      obtain ⟨hI, hJ, kk0, kk1, rb_⟩ := hq11
      have b12 : 0 ≤ (Int32.toInt x7) ∧ (Int32.toInt x7) ≤ 1 := rb_
      have hI : zI XT g8 := hI
      have hJ : pJ g8 := hJ
      have k0_0 : g8 2 2 = g0 2 2 := kk0.trans k0_0
      have k0_1 : g8 0 13 = g0 0 13 := kk1.trans k0_1
      have J32 : ∀ (g : Nat → Nat → Int32) (L : Nat → Nat → Int64), (5 ≤ (Int32.toInt v1) ∧ (Int32.toInt v1) ≤ 5) → (0 ≤ (Int32.toInt v2) ∧ (Int32.toInt v2) ≤ 699) → zI XT g → pJ g → g 2 2 = g0 2 2 → g 0 13 = g0 0 13 → Ex (fX6_readSum_5_p32 fu (fX6_readExpr_5 fu 1) k7 v1 v2 g L) (fun (r : Unit) (g1 : Nat → Nat → Int32) (L1 : Nat → Nat → Int64) => zI XT g1 ∧ pJ g1 ∧ g1 2 2 = g0 2 2 ∧ g1 0 13 = g0 0 13) := by
        intro g L hb_v1 hb_v2 hI hJ k0_0 k0_1
        unfold fX6_readSum_5_p32
        refine Ex.cb (sX6_isSignNow_5 fu hfu 43 g L hI hJ) (fun x13 g14 L15 hq17 => ?_)
        obtain ⟨hI, hJ, kk0, kk1, rb_⟩ := hq17
        have b18 : 0 ≤ (Int32.toInt x13) ∧ (Int32.toInt x13) ≤ 1 := rb_
        have hI : zI XT g14 := hI
        have hJ : pJ g14 := hJ
        have k0_0 : g14 2 2 = g0 2 2 := kk0.trans k0_0
        have k0_1 : g14 0 13 = g0 0 13 := kk1.trans k0_1
        have J48 : ∀ (t0 : Int32) (g : Nat → Nat → Int32) (L : Nat → Nat → Int64), (5 ≤ (Int32.toInt v1) ∧ (Int32.toInt v1) ≤ 5) → (0 ≤ (Int32.toInt v2) ∧ (Int32.toInt v2) ≤ 699) → ((-8) ≤ (Int32.toInt t0) ∧ (Int32.toInt t0) ≤ (-7)) → zI XT g → pJ g → g 2 2 = g0 2 2 → g 0 13 = g0 0 13 → Ex (fX6_readSum_5_p48 fu (fX6_readExpr_5 fu 1) k7 v1 v2 t0 g L) (fun (r : Unit) (g1 : Nat → Nat → Int32) (L1 : Nat → Nat → Int64) => zI XT g1 ∧ pJ g1 ∧ g1 2 2 = g0 2 2 ∧ g1 0 13 = g0 0 13) := by
          intro t0 g L hb_v1 hb_v2 hb_t0 hI hJ k0_0 k0_1
          unfold fX6_readSum_5_p48
          refine Ex.cb (sX6_advance_5 fu hfu g L hI hJ) (fun x19 g20 L21 hq23 => ?_)
          obtain ⟨hI, hJ, kk0, kk1⟩ := hq23
          have hI : zI XT g20 := hI
          have hJ : pJ g20 := hJ
          have k0_0 : g20 2 2 = g0 2 2 := kk0.trans k0_0
          have k0_1 : g20 0 13 = g0 0 13 := kk1.trans k0_1
          refine Ex.cb (sX6_readProduct_5_L2 fu hfu v1 g20 L21 hI hJ (by omega)) (fun x24 g25 L26 hq28 => ?_)
          obtain ⟨hI, hJ, kk0, kk1⟩ := hq28
          have hI : zI XT g25 := hI
          have hJ : pJ g25 := hJ
          have k0_0 : g25 2 2 = g0 2 2 := kk0.trans k0_0
          have k0_1 : g25 0 13 = g0 0 13 := kk1.trans k0_1
          refine Ex.cb (sX8_add_4 fu hfu t0 g25 L26 hI hJ) (fun x29 g30 L31 hq33 => ?_)
          obtain ⟨hI, hJ, kk0, kk1⟩ := hq33
          have hI : zI XT g30 := hI
          have hJ : pJ g30 := hJ
          have k0_0 : g30 2 2 = g0 2 2 := kk0.trans k0_0
          have k0_1 : g30 0 13 = g0 0 13 := kk1.trans k0_1
          generalize z34q : (v2 + 1) = z34
          have e35 : (Int32.toInt z34) = (Int32.toInt v2) + 1 := by rw [← z34q]; exact ic_addc rfl (by decide) (by omega) (by omega)
          exact ih7 (z34, g30, L31) ⟨(show (5 ≤ (Int32.toInt v1) ∧ (Int32.toInt v1) ≤ 5) from by omega), (show (0 ≤ (Int32.toInt z34) ∧ (Int32.toInt z34) ≤ 700) from by omega), hI, hJ, k0_0, k0_1⟩ (by show 701 - (Int32.toInt z34) < _; omega) (by omega)
        refine Ex.ite (fun c36 => ?_) (fun c36 => ?_)
        ·
          have c36 := icc_eq (m := (Int32.toInt x13)) (n := 0) rfl (by decide) c36
          exact J48 (-8) g14 L15 (by omega) (by omega) (by decide) hI hJ k0_0 k0_1
        ·
          have c36 := icc_neq (m := (Int32.toInt x13)) (n := 0) rfl (by decide) c36
          exact J48 (-7) g14 L15 (by omega) (by omega) (by decide) hI hJ k0_0 k0_1
      refine Ex.ite (fun c37 => ?_) (fun c37 => ?_)
      ·
        have c37 := icc_eq (m := (Int32.toInt x7)) (n := 0) rfl (by decide) c37
        refine Ex.cb (sX6_isSignNow_5 fu hfu 45 g8 L9 hI hJ) (fun x38 g39 L40 hq42 => ?_)
        obtain ⟨hI, hJ, kk0, kk1, rb_⟩ := hq42
        have b43 : 0 ≤ (Int32.toInt x38) ∧ (Int32.toInt x38) ≤ 1 := rb_
        have hI : zI XT g39 := hI
        have hJ : pJ g39 := hJ
        have k0_0 : g39 2 2 = g0 2 2 := kk0.trans k0_0
        have k0_1 : g39 0 13 = g0 0 13 := kk1.trans k0_1
        refine Ex.ite (fun c44 => ?_) (fun c44 => ?_)
        ·
          have c44 := icc_eq (m := (Int32.toInt x38)) (n := 0) rfl (by decide) c44
          exact J75 g39 L40 hI hJ k0_0 k0_1
        ·
          have c44 := icc_neq (m := (Int32.toInt x38)) (n := 0) rfl (by decide) c44
          exact J32 g39 L40 (by omega) (by omega) hI hJ k0_0 k0_1
      ·
        have c37 := icc_neq (m := (Int32.toInt x7)) (n := 0) rfl (by decide) c37
        exact J32 g8 L9 (by omega) (by omega) hI hJ k0_0 k0_1
  exact lp7 p1 0 g2 L3 (by omega) (by decide) hI hJ k0_0 k0_1
set_option maxHeartbeats 4000000 in
set_option maxRecDepth 100000 in
theorem sX6_readTest_5_L2 (fu : Nat) (hfu : 1180591620717411303424 ≤ fu) (p1 : Int32) (g0 : Nat → Nat → Int32) (L0 : Nat → Nat → Int64) (hI : zI XT g0) (hJ : pJ g0) (hp1 : (5 ≤ (Int32.toInt p1) ∧ (Int32.toInt p1) ≤ 5)) : Ex (fX6_readTest_5 fu (fX6_readExpr_5 fu 1) p1 g0 L0) (fun (r : Unit) (g1 : Nat → Nat → Int32) (L1 : Nat → Nat → Int64) => zI XT g1 ∧ pJ g1 ∧ g1 2 2 = g0 2 2 ∧ g1 0 13 = g0 0 13) := by
  have k0_0 : g0 2 2 = g0 2 2 := rfl
  have k0_1 : g0 0 13 = g0 0 13 := rfl
  unfold fX6_readTest_5
  refine Ex.cb (sX6_readSum_5_L2 fu hfu p1 g0 L0 hI hJ (by omega)) (fun x1 g2 L3 hq5 => ?_)
  obtain ⟨hI, hJ, kk0, kk1⟩ := hq5
  have hI : zI XT g2 := hI
  have hJ : pJ g2 := hJ
  have k0_0 : g2 2 2 = g0 2 2 := kk0.trans k0_0
  have k0_1 : g2 0 13 = g0 0 13 := kk1.trans k0_1
  refine Ex.cb (sX6_isSignNow_5 fu hfu 60 g2 L3 hI hJ) (fun x6 g7 L8 hq10 => ?_)
  obtain ⟨hI, hJ, kk0, kk1, rb_⟩ := hq10
  have b11 : 0 ≤ (Int32.toInt x6) ∧ (Int32.toInt x6) ≤ 1 := rb_
  have hI : zI XT g7 := hI
  have hJ : pJ g7 := hJ
  have k0_0 : g7 2 2 = g0 2 2 := kk0.trans k0_0
  have k0_1 : g7 0 13 = g0 0 13 := kk1.trans k0_1
  have J68 : ∀ (g : Nat → Nat → Int32) (L : Nat → Nat → Int64), zI XT g → pJ g → g 2 2 = g0 2 2 → g 0 13 = g0 0 13 → Ex (fX6_readTest_5_p68 fu (fX6_readExpr_5 fu 1) g L) (fun (r : Unit) (g1 : Nat → Nat → Int32) (L1 : Nat → Nat → Int64) => zI XT g1 ∧ pJ g1 ∧ g1 2 2 = g0 2 2 ∧ g1 0 13 = g0 0 13) := by
    intro g L hI hJ k0_0 k0_1
    unfold fX6_readTest_5_p68
    exact Ex.ret ⟨hI, hJ, k0_0, k0_1⟩
  refine Ex.ite (fun c12 => ?_) (fun c12 => ?_)
  ·
    have c12 := icc_eq (m := (Int32.toInt x6)) (n := 0) rfl (by decide) c12
    refine Ex.cb (sX6_isSignNow_5 fu hfu 61 g7 L8 hI hJ) (fun x13 g14 L15 hq17 => ?_)
    obtain ⟨hI, hJ, kk0, kk1, rb_⟩ := hq17
    have b18 : 0 ≤ (Int32.toInt x13) ∧ (Int32.toInt x13) ≤ 1 := rb_
    have hI : zI XT g14 := hI
    have hJ : pJ g14 := hJ
    have k0_0 : g14 2 2 = g0 2 2 := kk0.trans k0_0
    have k0_1 : g14 0 13 = g0 0 13 := kk1.trans k0_1
    refine Ex.ite (fun c19 => ?_) (fun c19 => ?_)
    ·
      have c19 := icc_eq (m := (Int32.toInt x13)) (n := 0) rfl (by decide) c19
      exact J68 g14 L15 hI hJ k0_0 k0_1
    ·
      have c19 := icc_neq (m := (Int32.toInt x13)) (n := 0) rfl (by decide) c19
      refine Ex.cb (sX6_advance_5 fu hfu g14 L15 hI hJ) (fun x20 g21 L22 hq24 => ?_)
      obtain ⟨hI, hJ, kk0, kk1⟩ := hq24
      have hI : zI XT g21 := hI
      have hJ : pJ g21 := hJ
      have k0_0 : g21 2 2 = g0 2 2 := kk0.trans k0_0
      have k0_1 : g21 0 13 = g0 0 13 := kk1.trans k0_1
      refine Ex.cb (sX6_readSum_5_L2 fu hfu p1 g21 L22 hI hJ (by omega)) (fun x25 g26 L27 hq29 => ?_)
      obtain ⟨hI, hJ, kk0, kk1⟩ := hq29
      have hI : zI XT g26 := hI
      have hJ : pJ g26 := hJ
      have k0_0 : g26 2 2 = g0 2 2 := kk0.trans k0_0
      have k0_1 : g26 0 13 = g0 0 13 := kk1.trans k0_1
      refine Ex.cb (sX8_add_4 fu hfu (-12) g26 L27 hI hJ) (fun x30 g31 L32 hq34 => ?_)
      obtain ⟨hI, hJ, kk0, kk1⟩ := hq34
      have hI : zI XT g31 := hI
      have hJ : pJ g31 := hJ
      have k0_0 : g31 2 2 = g0 2 2 := kk0.trans k0_0
      have k0_1 : g31 0 13 = g0 0 13 := kk1.trans k0_1
      exact J68 g31 L32 hI hJ k0_0 k0_1
  ·
    have c12 := icc_neq (m := (Int32.toInt x6)) (n := 0) rfl (by decide) c12
    refine Ex.cb (sX6_advance_5 fu hfu g7 L8 hI hJ) (fun x35 g36 L37 hq39 => ?_)
    obtain ⟨hI, hJ, kk0, kk1⟩ := hq39
    have hI : zI XT g36 := hI
    have hJ : pJ g36 := hJ
    have k0_0 : g36 2 2 = g0 2 2 := kk0.trans k0_0
    have k0_1 : g36 0 13 = g0 0 13 := kk1.trans k0_1
    refine Ex.cb (sX6_readSum_5_L2 fu hfu p1 g36 L37 hI hJ (by omega)) (fun x40 g41 L42 hq44 => ?_)
    obtain ⟨hI, hJ, kk0, kk1⟩ := hq44
    have hI : zI XT g41 := hI
    have hJ : pJ g41 := hJ
    have k0_0 : g41 2 2 = g0 2 2 := kk0.trans k0_0
    have k0_1 : g41 0 13 = g0 0 13 := kk1.trans k0_1
    refine Ex.cb (sX8_add_4 fu hfu (-11) g41 L42 hI hJ) (fun x45 g46 L47 hq49 => ?_)
    obtain ⟨hI, hJ, kk0, kk1⟩ := hq49
    have hI : zI XT g46 := hI
    have hJ : pJ g46 := hJ
    have k0_0 : g46 2 2 = g0 2 2 := kk0.trans k0_0
    have k0_1 : g46 0 13 = g0 0 13 := kk1.trans k0_1
    exact J68 g46 L47 hI hJ k0_0 k0_1
set_option maxHeartbeats 4000000 in
set_option maxRecDepth 100000 in
theorem sX6_readNot_5_L2 (fu : Nat) (hfu : 1180591620717411303424 ≤ fu) (p1 : Int32) (g0 : Nat → Nat → Int32) (L0 : Nat → Nat → Int64) (hI : zI XT g0) (hJ : pJ g0) (hp1 : (5 ≤ (Int32.toInt p1) ∧ (Int32.toInt p1) ≤ 5)) : Ex (fX6_readNot_5 fu (fX6_readExpr_5 fu 1) p1 g0 L0) (fun (r : Unit) (g1 : Nat → Nat → Int32) (L1 : Nat → Nat → Int64) => zI XT g1 ∧ pJ g1 ∧ g1 2 2 = g0 2 2 ∧ g1 0 13 = g0 0 13) := by
  have k0_0 : g0 2 2 = g0 2 2 := rfl
  have k0_1 : g0 0 13 = g0 0 13 := rfl
  unfold fX6_readNot_5
  have lp2 : ∀ (v1 : Int32) (v2 : Int32) (g : Nat → Nat → Int32) (L : Nat → Nat → Int64), (5 ≤ (Int32.toInt v1) ∧ (Int32.toInt v1) ≤ 5) → (0 ≤ (Int32.toInt v2) ∧ (Int32.toInt v2) ≤ 6) → zI XT g → pJ g → g 2 2 = g0 2 2 → g 0 13 = g0 0 13 → Ex (fX6_readNot_5_l2 fu (fX6_readExpr_5 fu 1) v1 v2 g L) (fun (r : Unit) (g1 : Nat → Nat → Int32) (L1 : Nat → Nat → Int64) => zI XT g1 ∧ pJ g1 ∧ g1 2 2 = g0 2 2 ∧ g1 0 13 = g0 0 13) := by
    intro v1 v2 g L hb_v1 hb_v2 hI hJ k0_0 k0_1
    unfold fX6_readNot_5_l2
    refine Ex.loop (fun v => ((5 ≤ (Int32.toInt v1) ∧ (Int32.toInt v1) ≤ 5)) ∧ ((0 ≤ (Int32.toInt (v.1)) ∧ (Int32.toInt (v.1)) ≤ 6)) ∧ (zI XT (v.2.1)) ∧ (pJ (v.2.1)) ∧ ((v.2.1) 2 2 = g0 2 2) ∧ ((v.2.1) 0 13 = g0 0 13)) (fun v => 7 - (Int32.toInt (v.1))) (by omega) (by show 7 - (Int32.toInt v2) < (fu : Int); omega) ⟨hb_v1, hb_v2, hI, hJ, k0_0, k0_1⟩ (fun k2 v hv ih2 => ?_)
    obtain ⟨v2, g, L⟩ := v
    obtain ⟨hb_v1, hb_v2, hI, hJ, k0_0, k0_1⟩ := hv
    have hb_v1 : (5 ≤ (Int32.toInt v1) ∧ (Int32.toInt v1) ≤ 5) := hb_v1
    have hb_v2 : (0 ≤ (Int32.toInt v2) ∧ (Int32.toInt v2) ≤ 6) := hb_v2
    have hI : zI XT g := hI
    have hJ : pJ g := hJ
    have k0_0 : g 2 2 = g0 2 2 := k0_0
    have k0_1 : g 0 13 = g0 0 13 := k0_1
    have ih2 : ∀ v' : Int32 × (Nat → Nat → Int32) × (Nat → Nat → Int64), (((5 ≤ (Int32.toInt v1) ∧ (Int32.toInt v1) ≤ 5)) ∧ ((0 ≤ (Int32.toInt (v'.1)) ∧ (Int32.toInt (v'.1)) ≤ 6)) ∧ (zI XT (v'.2.1)) ∧ (pJ (v'.2.1)) ∧ ((v'.2.1) 2 2 = g0 2 2) ∧ ((v'.2.1) 0 13 = g0 0 13)) → 7 - (Int32.toInt (v'.1)) < 7 - (Int32.toInt v2) → 0 < 7 - (Int32.toInt v2) → Ex (k2 v') (fun (r : Unit) (g1 : Nat → Nat → Int32) (L1 : Nat → Nat → Int64) => zI XT g1 ∧ pJ g1 ∧ g1 2 2 = g0 2 2 ∧ g1 0 13 = g0 0 13) := ih2
    show Ex (fX6_readNot_5_s2 fu (fX6_readExpr_5 fu 1) v1 k2 v2 g L) (fun (r : Unit) (g1 : Nat → Nat → Int32) (L1 : Nat → Nat → Int64) => zI XT g1 ∧ pJ g1 ∧ g1 2 2 = g0 2 2 ∧ g1 0 13 = g0 0 13)
    unfold fX6_readNot_5_s2
    have J27 : ∀ (v1 : Int32) (v2 : Int32) (g : Nat → Nat → Int32) (L : Nat → Nat → Int64), (5 ≤ (Int32.toInt v1) ∧ (Int32.toInt v1) ≤ 5) → (0 ≤ (Int32.toInt v2) ∧ (Int32.toInt v2) ≤ 6) → zI XT g → pJ g → g 2 2 = g0 2 2 → g 0 13 = g0 0 13 → Ex (fX6_readNot_5_p27 fu (fX6_readExpr_5 fu 1) v1 v2 g L) (fun (r : Unit) (g1 : Nat → Nat → Int32) (L1 : Nat → Nat → Int64) => zI XT g1 ∧ pJ g1 ∧ g1 2 2 = g0 2 2 ∧ g1 0 13 = g0 0 13) := by
      intro v1 v2 g L hb_v1 hb_v2 hI hJ k0_0 k0_1
      unfold fX6_readNot_5_p27
      refine Ex.cb (sX6_isWord_5_not fu hfu g L hI hJ) (fun x1 g2 L3 hq5 => ?_)
      obtain ⟨hI, hJ, kk0, kk1, rb_⟩ := hq5
      have b6 : 0 ≤ (Int32.toInt x1) ∧ (Int32.toInt x1) ≤ 1 := rb_
      have hI : zI XT g2 := hI
      have hJ : pJ g2 := hJ
      have k0_0 : g2 2 2 = g0 2 2 := kk0.trans k0_0
      have k0_1 : g2 0 13 = g0 0 13 := kk1.trans k0_1
      have J47 : ∀ (v1 : Int32) (v2 : Int32) (g : Nat → Nat → Int32) (L : Nat → Nat → Int64), (5 ≤ (Int32.toInt v1) ∧ (Int32.toInt v1) ≤ 5) → (0 ≤ (Int32.toInt v2) ∧ (Int32.toInt v2) ≤ 6) → zI XT g → pJ g → g 2 2 = g0 2 2 → g 0 13 = g0 0 13 → Ex (fX6_readNot_5_p47 fu (fX6_readExpr_5 fu 1) v1 v2 g L) (fun (r : Unit) (g1 : Nat → Nat → Int32) (L1 : Nat → Nat → Int64) => zI XT g1 ∧ pJ g1 ∧ g1 2 2 = g0 2 2 ∧ g1 0 13 = g0 0 13) := by
        intro v1 v2 g L hb_v1 hb_v2 hI hJ k0_0 k0_1
        unfold fX6_readNot_5_p47
        refine Ex.cb (sX6_readTest_5_L2 fu hfu v1 g L hI hJ (by omega)) (fun x7 g8 L9 hq11 => ?_)
        obtain ⟨hI, hJ, kk0, kk1⟩ := hq11
        have hI : zI XT g8 := hI
        have hJ : pJ g8 := hJ
        have k0_0 : g8 2 2 = g0 2 2 := kk0.trans k0_0
        have k0_1 : g8 0 13 = g0 0 13 := kk1.trans k0_1
        have lp54 : ∀ (v2 : Int32) (v3 : Int32) (g : Nat → Nat → Int32) (L : Nat → Nat → Int64), (0 ≤ (Int32.toInt v2) ∧ (Int32.toInt v2) ≤ 6) → (0 ≤ (Int32.toInt v3) ∧ (Int32.toInt v3) ≤ 6) → zI XT g → pJ g → g 2 2 = g0 2 2 → g 0 13 = g0 0 13 → Ex (fX6_readNot_5_l54 fu (fX6_readExpr_5 fu 1) v2 v3 g L) (fun (r : Unit) (g1 : Nat → Nat → Int32) (L1 : Nat → Nat → Int64) => zI XT g1 ∧ pJ g1 ∧ g1 2 2 = g0 2 2 ∧ g1 0 13 = g0 0 13) := by
          intro v2 v3 g L hb_v2 hb_v3 hI hJ k0_0 k0_1
          unfold fX6_readNot_5_l54
          refine Ex.loop (fun v => ((0 ≤ (Int32.toInt v2) ∧ (Int32.toInt v2) ≤ 6)) ∧ ((0 ≤ (Int32.toInt (v.1)) ∧ (Int32.toInt (v.1)) ≤ 6)) ∧ (zI XT (v.2.1)) ∧ (pJ (v.2.1)) ∧ ((v.2.1) 2 2 = g0 2 2) ∧ ((v.2.1) 0 13 = g0 0 13)) (fun v => 7 - (Int32.toInt (v.1))) (by omega) (by show 7 - (Int32.toInt v3) < (fu : Int); omega) ⟨hb_v2, hb_v3, hI, hJ, k0_0, k0_1⟩ (fun k54 v hv ih54 => ?_)
          obtain ⟨v3, g, L⟩ := v
          obtain ⟨hb_v2, hb_v3, hI, hJ, k0_0, k0_1⟩ := hv
          have hb_v2 : (0 ≤ (Int32.toInt v2) ∧ (Int32.toInt v2) ≤ 6) := hb_v2
          have hb_v3 : (0 ≤ (Int32.toInt v3) ∧ (Int32.toInt v3) ≤ 6) := hb_v3
          have hI : zI XT g := hI
          have hJ : pJ g := hJ
          have k0_0 : g 2 2 = g0 2 2 := k0_0
          have k0_1 : g 0 13 = g0 0 13 := k0_1
          have ih54 : ∀ v' : Int32 × (Nat → Nat → Int32) × (Nat → Nat → Int64), (((0 ≤ (Int32.toInt v2) ∧ (Int32.toInt v2) ≤ 6)) ∧ ((0 ≤ (Int32.toInt (v'.1)) ∧ (Int32.toInt (v'.1)) ≤ 6)) ∧ (zI XT (v'.2.1)) ∧ (pJ (v'.2.1)) ∧ ((v'.2.1) 2 2 = g0 2 2) ∧ ((v'.2.1) 0 13 = g0 0 13)) → 7 - (Int32.toInt (v'.1)) < 7 - (Int32.toInt v3) → 0 < 7 - (Int32.toInt v3) → Ex (k54 v') (fun (r : Unit) (g1 : Nat → Nat → Int32) (L1 : Nat → Nat → Int64) => zI XT g1 ∧ pJ g1 ∧ g1 2 2 = g0 2 2 ∧ g1 0 13 = g0 0 13) := ih54
          show Ex (fX6_readNot_5_s54 fu (fX6_readExpr_5 fu 1) v2 k54 v3 g L) (fun (r : Unit) (g1 : Nat → Nat → Int32) (L1 : Nat → Nat → Int64) => zI XT g1 ∧ pJ g1 ∧ g1 2 2 = g0 2 2 ∧ g1 0 13 = g0 0 13)
          unfold fX6_readNot_5_s54
          refine Ex.ite (fun c12 => ?_) (fun c12 => ?_)
          ·
            have c12 := icc_le (m := (Int32.toInt v2)) (n := (Int32.toInt v3)) rfl rfl c12
            exact Ex.ret ⟨hI, hJ, k0_0, k0_1⟩
          ·
            have c12 := icc_nle (m := (Int32.toInt v2)) (n := (Int32.toInt v3)) rfl rfl c12
            refine Ex.cb (sX8_add_4 fu hfu (-15) g L hI hJ) (fun x13 g14 L15 hq17 => ?_)
            obtain ⟨hI, hJ, kk0, kk1⟩ := hq17
            have hI : zI XT g14 := hI
            have hJ : pJ g14 := hJ
            have k0_0 : g14 2 2 = g0 2 2 := kk0.trans k0_0
            have k0_1 : g14 0 13 = g0 0 13 := kk1.trans k0_1
            generalize z18q : (v3 + 1) = z18
            have e19 : (Int32.toInt z18) = (Int32.toInt v3) + 1 := by rw [← z18q]; exact ic_addc rfl (by decide) (by omega) (by omega)
            exact ih54 (z18, g14, L15) ⟨(show (0 ≤ (Int32.toInt v2) ∧ (Int32.toInt v2) ≤ 6) from by omega), (show (0 ≤ (Int32.toInt z18) ∧ (Int32.toInt z18) ≤ 6) from by omega), hI, hJ, k0_0, k0_1⟩ (by show 7 - (Int32.toInt z18) < _; omega) (by omega)
        exact lp54 v2 0 g8 L9 (by omega) (by decide) hI hJ k0_0 k0_1
      refine Ex.ite (fun c20 => ?_) (fun c20 => ?_)
      ·
        have c20 := icc_eq (m := (Int32.toInt x1)) (n := 0) rfl (by decide) c20
        exact J47 v1 v2 g2 L3 (by omega) (by omega) hI hJ k0_0 k0_1
      ·
        have c20 := icc_neq (m := (Int32.toInt x1)) (n := 0) rfl (by decide) c20
        refine Ex.ite (fun c21 => ?_) (fun c21 => ?_)
        ·
          have c21 := icc_lt (m := (Int32.toInt v2)) (n := 6) rfl (by decide) c21
          exact J47 v1 v2 g2 L3 (by omega) (by omega) hI hJ k0_0 k0_1
        ·
          have c21 := icc_nlt (m := (Int32.toInt v2)) (n := 6) rfl (by decide) c21
          refine Ex.cb (sX6_refuse_5 fu hfu 2 g2 L3 hI hJ) (fun x22 g23 L24 hq26 => ?_)
          obtain ⟨hI, hJ, kk0, kk1⟩ := hq26
          have hI : zI XT g23 := hI
          have hJ : pJ g23 := hJ
          have k0_0 : g23 2 2 = g0 2 2 := kk0.trans k0_0
          have k0_1 : g23 0 13 = g0 0 13 := kk1.trans k0_1
          exact J47 v1 v2 g23 L24 (by omega) (by omega) hI hJ k0_0 k0_1
    refine Ex.ite (fun c27 => ?_) (fun c27 => ?_)
    ·
      have c27 := icc_le (m := 6) (n := (Int32.toInt v2)) (by decide) rfl c27
      exact J27 v1 v2 g L (by omega) (by omega) hI hJ k0_0 k0_1
    ·
      have c27 := icc_nle (m := 6) (n := (Int32.toInt v2)) (by decide) rfl c27
      refine Ex.cb (sX6_isWord_5_not fu hfu g L hI hJ) (fun x28 g29 L30 hq32 => ?_)
      obtain ⟨hI, hJ, kk0, kk1, rb_⟩ := hq32
      have b33 : 0 ≤ (Int32.toInt x28) ∧ (Int32.toInt x28) ≤ 1 := rb_
      have hI : zI XT g29 := hI
      have hJ : pJ g29 := hJ
      have k0_0 : g29 2 2 = g0 2 2 := kk0.trans k0_0
      have k0_1 : g29 0 13 = g0 0 13 := kk1.trans k0_1
      refine Ex.ite (fun c34 => ?_) (fun c34 => ?_)
      ·
        have c34 := icc_eq (m := (Int32.toInt x28)) (n := 0) rfl (by decide) c34
        exact J27 v1 v2 g29 L30 (by omega) (by omega) hI hJ k0_0 k0_1
      ·
        have c34 := icc_neq (m := (Int32.toInt x28)) (n := 0) rfl (by decide) c34
        generalize z35q : (v2 + 1) = z35
        have e36 : (Int32.toInt z35) = (Int32.toInt v2) + 1 := by rw [← z35q]; exact ic_addc rfl (by decide) (by omega) (by omega)
        refine Ex.cb (sX6_advance_5 fu hfu g29 L30 hI hJ) (fun x37 g38 L39 hq41 => ?_)
        obtain ⟨hI, hJ, kk0, kk1⟩ := hq41
        have hI : zI XT g38 := hI
        have hJ : pJ g38 := hJ
        have k0_0 : g38 2 2 = g0 2 2 := kk0.trans k0_0
        have k0_1 : g38 0 13 = g0 0 13 := kk1.trans k0_1
        exact ih2 (z35, g38, L39) ⟨(show (5 ≤ (Int32.toInt v1) ∧ (Int32.toInt v1) ≤ 5) from by omega), (show (0 ≤ (Int32.toInt z35) ∧ (Int32.toInt z35) ≤ 6) from by omega), hI, hJ, k0_0, k0_1⟩ (by show 7 - (Int32.toInt z35) < _; omega) (by omega)
  exact lp2 p1 0 g0 L0 (by omega) (by decide) hI hJ k0_0 k0_1
set_option maxHeartbeats 4000000 in
set_option maxRecDepth 100000 in
theorem sX6_readAnd_5_L2 (fu : Nat) (hfu : 1180591620717411303424 ≤ fu) (p1 : Int32) (g0 : Nat → Nat → Int32) (L0 : Nat → Nat → Int64) (hI : zI XT g0) (hJ : pJ g0) (hp1 : (5 ≤ (Int32.toInt p1) ∧ (Int32.toInt p1) ≤ 5)) : Ex (fX6_readAnd_5 fu (fX6_readExpr_5 fu 1) p1 g0 L0) (fun (r : Unit) (g1 : Nat → Nat → Int32) (L1 : Nat → Nat → Int64) => zI XT g1 ∧ pJ g1 ∧ g1 2 2 = g0 2 2 ∧ g1 0 13 = g0 0 13) := by
  have k0_0 : g0 2 2 = g0 2 2 := rfl
  have k0_1 : g0 0 13 = g0 0 13 := rfl
  unfold fX6_readAnd_5
  refine Ex.cb (sX6_readNot_5_L2 fu hfu p1 g0 L0 hI hJ (by omega)) (fun x1 g2 L3 hq5 => ?_)
  obtain ⟨hI, hJ, kk0, kk1⟩ := hq5
  have hI : zI XT g2 := hI
  have hJ : pJ g2 := hJ
  have k0_0 : g2 2 2 = g0 2 2 := kk0.trans k0_0
  have k0_1 : g2 0 13 = g0 0 13 := kk1.trans k0_1
  have lp7 : ∀ (v1 : Int32) (v2 : Int32) (g : Nat → Nat → Int32) (L : Nat → Nat → Int64), (5 ≤ (Int32.toInt v1) ∧ (Int32.toInt v1) ≤ 5) → (0 ≤ (Int32.toInt v2) ∧ (Int32.toInt v2) ≤ 700) → zI XT g → pJ g → g 2 2 = g0 2 2 → g 0 13 = g0 0 13 → Ex (fX6_readAnd_5_l7 fu (fX6_readExpr_5 fu 1) v1 v2 g L) (fun (r : Unit) (g1 : Nat → Nat → Int32) (L1 : Nat → Nat → Int64) => zI XT g1 ∧ pJ g1 ∧ g1 2 2 = g0 2 2 ∧ g1 0 13 = g0 0 13) := by
    intro v1 v2 g L hb_v1 hb_v2 hI hJ k0_0 k0_1
    unfold fX6_readAnd_5_l7
    refine Ex.loop (fun v => ((5 ≤ (Int32.toInt v1) ∧ (Int32.toInt v1) ≤ 5)) ∧ ((0 ≤ (Int32.toInt (v.1)) ∧ (Int32.toInt (v.1)) ≤ 700)) ∧ (zI XT (v.2.1)) ∧ (pJ (v.2.1)) ∧ ((v.2.1) 2 2 = g0 2 2) ∧ ((v.2.1) 0 13 = g0 0 13)) (fun v => 701 - (Int32.toInt (v.1))) (by omega) (by show 701 - (Int32.toInt v2) < (fu : Int); omega) ⟨hb_v1, hb_v2, hI, hJ, k0_0, k0_1⟩ (fun k7 v hv ih7 => ?_)
    obtain ⟨v2, g, L⟩ := v
    obtain ⟨hb_v1, hb_v2, hI, hJ, k0_0, k0_1⟩ := hv
    have hb_v1 : (5 ≤ (Int32.toInt v1) ∧ (Int32.toInt v1) ≤ 5) := hb_v1
    have hb_v2 : (0 ≤ (Int32.toInt v2) ∧ (Int32.toInt v2) ≤ 700) := hb_v2
    have hI : zI XT g := hI
    have hJ : pJ g := hJ
    have k0_0 : g 2 2 = g0 2 2 := k0_0
    have k0_1 : g 0 13 = g0 0 13 := k0_1
    have ih7 : ∀ v' : Int32 × (Nat → Nat → Int32) × (Nat → Nat → Int64), (((5 ≤ (Int32.toInt v1) ∧ (Int32.toInt v1) ≤ 5)) ∧ ((0 ≤ (Int32.toInt (v'.1)) ∧ (Int32.toInt (v'.1)) ≤ 700)) ∧ (zI XT (v'.2.1)) ∧ (pJ (v'.2.1)) ∧ ((v'.2.1) 2 2 = g0 2 2) ∧ ((v'.2.1) 0 13 = g0 0 13)) → 701 - (Int32.toInt (v'.1)) < 701 - (Int32.toInt v2) → 0 < 701 - (Int32.toInt v2) → Ex (k7 v') (fun (r : Unit) (g1 : Nat → Nat → Int32) (L1 : Nat → Nat → Int64) => zI XT g1 ∧ pJ g1 ∧ g1 2 2 = g0 2 2 ∧ g1 0 13 = g0 0 13) := ih7
    show Ex (fX6_readAnd_5_s7 fu (fX6_readExpr_5 fu 1) v1 k7 v2 g L) (fun (r : Unit) (g1 : Nat → Nat → Int32) (L1 : Nat → Nat → Int64) => zI XT g1 ∧ pJ g1 ∧ g1 2 2 = g0 2 2 ∧ g1 0 13 = g0 0 13)
    unfold fX6_readAnd_5_s7
    have J50 : ∀ (g : Nat → Nat → Int32) (L : Nat → Nat → Int64), zI XT g → pJ g → g 2 2 = g0 2 2 → g 0 13 = g0 0 13 → Ex (fX6_readAnd_5_p50 fu (fX6_readExpr_5 fu 1) g L) (fun (r : Unit) (g1 : Nat → Nat → Int32) (L1 : Nat → Nat → Int64) => zI XT g1 ∧ pJ g1 ∧ g1 2 2 = g0 2 2 ∧ g1 0 13 = g0 0 13) := by
      intro g L hI hJ k0_0 k0_1
      unfold fX6_readAnd_5_p50
      exact Ex.ret ⟨hI, hJ, k0_0, k0_1⟩
    refine Ex.ite (fun c6 => ?_) (fun c6 => ?_)
    ·
      have c6 := icc_le (m := 700) (n := (Int32.toInt v2)) (by decide) rfl c6
      exact J50 g L hI hJ k0_0 k0_1
    ·
      have c6 := icc_nle (m := 700) (n := (Int32.toInt v2)) (by decide) rfl c6
      refine Ex.cb (sX6_isWord_5_and fu hfu g L hI hJ) (fun x7 g8 L9 hq11 => ?_)
      obtain ⟨hI, hJ, kk0, kk1, rb_⟩ := hq11
      have b12 : 0 ≤ (Int32.toInt x7) ∧ (Int32.toInt x7) ≤ 1 := rb_
      have hI : zI XT g8 := hI
      have hJ : pJ g8 := hJ
      have k0_0 : g8 2 2 = g0 2 2 := kk0.trans k0_0
      have k0_1 : g8 0 13 = g0 0 13 := kk1.trans k0_1
      refine Ex.ite (fun c13 => ?_) (fun c13 => ?_)
      ·
        have c13 := icc_eq (m := (Int32.toInt x7)) (n := 0) rfl (by decide) c13
        exact J50 g8 L9 hI hJ k0_0 k0_1
      ·
        have c13 := icc_neq (m := (Int32.toInt x7)) (n := 0) rfl (by decide) c13
        refine Ex.cb (sX6_advance_5 fu hfu g8 L9 hI hJ) (fun x14 g15 L16 hq18 => ?_)
        obtain ⟨hI, hJ, kk0, kk1⟩ := hq18
        have hI : zI XT g15 := hI
        have hJ : pJ g15 := hJ
        have k0_0 : g15 2 2 = g0 2 2 := kk0.trans k0_0
        have k0_1 : g15 0 13 = g0 0 13 := kk1.trans k0_1
        refine Ex.cb (sX6_readNot_5_L2 fu hfu v1 g15 L16 hI hJ (by omega)) (fun x19 g20 L21 hq23 => ?_)
        obtain ⟨hI, hJ, kk0, kk1⟩ := hq23
        have hI : zI XT g20 := hI
        have hJ : pJ g20 := hJ
        have k0_0 : g20 2 2 = g0 2 2 := kk0.trans k0_0
        have k0_1 : g20 0 13 = g0 0 13 := kk1.trans k0_1
        refine Ex.cb (sX8_add_4 fu hfu (-13) g20 L21 hI hJ) (fun x24 g25 L26 hq28 => ?_)
        obtain ⟨hI, hJ, kk0, kk1⟩ := hq28
        have hI : zI XT g25 := hI
        have hJ : pJ g25 := hJ
        have k0_0 : g25 2 2 = g0 2 2 := kk0.trans k0_0
        have k0_1 : g25 0 13 = g0 0 13 := kk1.trans k0_1
        generalize z29q : (v2 + 1) = z29
        have e30 : (Int32.toInt z29) = (Int32.toInt v2) + 1 := by rw [← z29q]; exact ic_addc rfl (by decide) (by omega) (by omega)
        exact ih7 (z29, g25, L26) ⟨(show (5 ≤ (Int32.toInt v1) ∧ (Int32.toInt v1) ≤ 5) from by omega), (show (0 ≤ (Int32.toInt z29) ∧ (Int32.toInt z29) ≤ 700) from by omega), hI, hJ, k0_0, k0_1⟩ (by show 701 - (Int32.toInt z29) < _; omega) (by omega)
  exact lp7 p1 0 g2 L3 (by omega) (by decide) hI hJ k0_0 k0_1
set_option maxHeartbeats 4000000 in
set_option maxRecDepth 100000 in
theorem sX6_readExpr_5_L2 (fu : Nat) (hfu : 1180591620717411303424 ≤ fu) (p1 : Int32) (g0 : Nat → Nat → Int32) (L0 : Nat → Nat → Int64) (hI : zI XT g0) (hJ : pJ g0) (hp1 : (5 ≤ (Int32.toInt p1) ∧ (Int32.toInt p1) ≤ 5)) : Ex (fX6_readExpr_5 fu 2 p1 g0 L0) (fun (r : Unit) (g1 : Nat → Nat → Int32) (L1 : Nat → Nat → Int64) => zI XT g1 ∧ pJ g1 ∧ g1 2 2 = g0 2 2 ∧ g1 0 13 = g0 0 13) := by
  have k0_0 : g0 2 2 = g0 2 2 := rfl
  have k0_1 : g0 0 13 = g0 0 13 := rfl
  rw [fX6_readExpr_5_succ]
  unfold fX6_readExpr_5B
  have J35 : ∀ (v1 : Int32) (g : Nat → Nat → Int32) (L : Nat → Nat → Int64), (5 ≤ (Int32.toInt v1) ∧ (Int32.toInt v1) ≤ 5) → zI XT g → pJ g → g 2 2 = g0 2 2 → g 0 13 = g0 0 13 → Ex (fX6_readExpr_5_p35 fu (fX6_readExpr_5 fu 1) v1 g L) (fun (r : Unit) (g1 : Nat → Nat → Int32) (L1 : Nat → Nat → Int64) => zI XT g1 ∧ pJ g1 ∧ g1 2 2 = g0 2 2 ∧ g1 0 13 = g0 0 13) := by
    intro v1 g L hb_v1 hI hJ k0_0 k0_1
    unfold fX6_readExpr_5_p35
    refine Ex.cb (sX6_readAnd_5_L2 fu hfu v1 g L hI hJ (by omega)) (fun x1 g2 L3 hq5 => ?_)
    obtain ⟨hI, hJ, kk0, kk1⟩ := hq5
    have hI : zI XT g2 := hI
    have hJ : pJ g2 := hJ
    have k0_0 : g2 2 2 = g0 2 2 := kk0.trans k0_0
    have k0_1 : g2 0 13 = g0 0 13 := kk1.trans k0_1
    have lp42 : ∀ (v1 : Int32) (v2 : Int32) (g : Nat → Nat → Int32) (L : Nat → Nat → Int64), (5 ≤ (Int32.toInt v1) ∧ (Int32.toInt v1) ≤ 5) → (0 ≤ (Int32.toInt v2) ∧ (Int32.toInt v2) ≤ 700) → zI XT g → pJ g → g 2 2 = g0 2 2 → g 0 13 = g0 0 13 → Ex (fX6_readExpr_5_l42 fu (fX6_readExpr_5 fu 1) v1 v2 g L) (fun (r : Unit) (g1 : Nat → Nat → Int32) (L1 : Nat → Nat → Int64) => zI XT g1 ∧ pJ g1 ∧ g1 2 2 = g0 2 2 ∧ g1 0 13 = g0 0 13) := by
      intro v1 v2 g L hb_v1 hb_v2 hI hJ k0_0 k0_1
      unfold fX6_readExpr_5_l42
      refine Ex.loop (fun v => ((5 ≤ (Int32.toInt v1) ∧ (Int32.toInt v1) ≤ 5)) ∧ ((0 ≤ (Int32.toInt (v.1)) ∧ (Int32.toInt (v.1)) ≤ 700)) ∧ (zI XT (v.2.1)) ∧ (pJ (v.2.1)) ∧ ((v.2.1) 2 2 = g0 2 2) ∧ ((v.2.1) 0 13 = g0 0 13)) (fun v => 701 - (Int32.toInt (v.1))) (by omega) (by show 701 - (Int32.toInt v2) < (fu : Int); omega) ⟨hb_v1, hb_v2, hI, hJ, k0_0, k0_1⟩ (fun k42 v hv ih42 => ?_)
      obtain ⟨v2, g, L⟩ := v
      obtain ⟨hb_v1, hb_v2, hI, hJ, k0_0, k0_1⟩ := hv
      have hb_v1 : (5 ≤ (Int32.toInt v1) ∧ (Int32.toInt v1) ≤ 5) := hb_v1
      have hb_v2 : (0 ≤ (Int32.toInt v2) ∧ (Int32.toInt v2) ≤ 700) := hb_v2
      have hI : zI XT g := hI
      have hJ : pJ g := hJ
      have k0_0 : g 2 2 = g0 2 2 := k0_0
      have k0_1 : g 0 13 = g0 0 13 := k0_1
      have ih42 : ∀ v' : Int32 × (Nat → Nat → Int32) × (Nat → Nat → Int64), (((5 ≤ (Int32.toInt v1) ∧ (Int32.toInt v1) ≤ 5)) ∧ ((0 ≤ (Int32.toInt (v'.1)) ∧ (Int32.toInt (v'.1)) ≤ 700)) ∧ (zI XT (v'.2.1)) ∧ (pJ (v'.2.1)) ∧ ((v'.2.1) 2 2 = g0 2 2) ∧ ((v'.2.1) 0 13 = g0 0 13)) → 701 - (Int32.toInt (v'.1)) < 701 - (Int32.toInt v2) → 0 < 701 - (Int32.toInt v2) → Ex (k42 v') (fun (r : Unit) (g1 : Nat → Nat → Int32) (L1 : Nat → Nat → Int64) => zI XT g1 ∧ pJ g1 ∧ g1 2 2 = g0 2 2 ∧ g1 0 13 = g0 0 13) := ih42
      show Ex (fX6_readExpr_5_s42 fu (fX6_readExpr_5 fu 1) v1 k42 v2 g L) (fun (r : Unit) (g1 : Nat → Nat → Int32) (L1 : Nat → Nat → Int64) => zI XT g1 ∧ pJ g1 ∧ g1 2 2 = g0 2 2 ∧ g1 0 13 = g0 0 13)
      unfold fX6_readExpr_5_s42
      have J85 : ∀ (g : Nat → Nat → Int32) (L : Nat → Nat → Int64), zI XT g → pJ g → g 2 2 = g0 2 2 → g 0 13 = g0 0 13 → Ex (fX6_readExpr_5_p85 fu (fX6_readExpr_5 fu 1) g L) (fun (r : Unit) (g1 : Nat → Nat → Int32) (L1 : Nat → Nat → Int64) => zI XT g1 ∧ pJ g1 ∧ g1 2 2 = g0 2 2 ∧ g1 0 13 = g0 0 13) := by
        intro g L hI hJ k0_0 k0_1
        unfold fX6_readExpr_5_p85
        exact Ex.ret ⟨hI, hJ, k0_0, k0_1⟩
      refine Ex.ite (fun c6 => ?_) (fun c6 => ?_)
      ·
        have c6 := icc_le (m := 700) (n := (Int32.toInt v2)) (by decide) rfl c6
        exact J85 g L hI hJ k0_0 k0_1
      ·
        have c6 := icc_nle (m := 700) (n := (Int32.toInt v2)) (by decide) rfl c6
        refine Ex.cb (sX6_isWord_5_or fu hfu g L hI hJ) (fun x7 g8 L9 hq11 => ?_)
        obtain ⟨hI, hJ, kk0, kk1, rb_⟩ := hq11
        have b12 : 0 ≤ (Int32.toInt x7) ∧ (Int32.toInt x7) ≤ 1 := rb_
        have hI : zI XT g8 := hI
        have hJ : pJ g8 := hJ
        have k0_0 : g8 2 2 = g0 2 2 := kk0.trans k0_0
        have k0_1 : g8 0 13 = g0 0 13 := kk1.trans k0_1
        refine Ex.ite (fun c13 => ?_) (fun c13 => ?_)
        ·
          have c13 := icc_eq (m := (Int32.toInt x7)) (n := 0) rfl (by decide) c13
          exact J85 g8 L9 hI hJ k0_0 k0_1
        ·
          have c13 := icc_neq (m := (Int32.toInt x7)) (n := 0) rfl (by decide) c13
          refine Ex.cb (sX6_advance_5 fu hfu g8 L9 hI hJ) (fun x14 g15 L16 hq18 => ?_)
          obtain ⟨hI, hJ, kk0, kk1⟩ := hq18
          have hI : zI XT g15 := hI
          have hJ : pJ g15 := hJ
          have k0_0 : g15 2 2 = g0 2 2 := kk0.trans k0_0
          have k0_1 : g15 0 13 = g0 0 13 := kk1.trans k0_1
          refine Ex.cb (sX6_readAnd_5_L2 fu hfu v1 g15 L16 hI hJ (by omega)) (fun x19 g20 L21 hq23 => ?_)
          obtain ⟨hI, hJ, kk0, kk1⟩ := hq23
          have hI : zI XT g20 := hI
          have hJ : pJ g20 := hJ
          have k0_0 : g20 2 2 = g0 2 2 := kk0.trans k0_0
          have k0_1 : g20 0 13 = g0 0 13 := kk1.trans k0_1
          refine Ex.cb (sX8_add_4 fu hfu (-14) g20 L21 hI hJ) (fun x24 g25 L26 hq28 => ?_)
          obtain ⟨hI, hJ, kk0, kk1⟩ := hq28
          have hI : zI XT g25 := hI
          have hJ : pJ g25 := hJ
          have k0_0 : g25 2 2 = g0 2 2 := kk0.trans k0_0
          have k0_1 : g25 0 13 = g0 0 13 := kk1.trans k0_1
          generalize z29q : (v2 + 1) = z29
          have e30 : (Int32.toInt z29) = (Int32.toInt v2) + 1 := by rw [← z29q]; exact ic_addc rfl (by decide) (by omega) (by omega)
          exact ih42 (z29, g25, L26) ⟨(show (5 ≤ (Int32.toInt v1) ∧ (Int32.toInt v1) ≤ 5) from by omega), (show (0 ≤ (Int32.toInt z29) ∧ (Int32.toInt z29) ≤ 700) from by omega), hI, hJ, k0_0, k0_1⟩ (by show 701 - (Int32.toInt z29) < _; omega) (by omega)
    exact lp42 v1 0 g2 L3 (by omega) (by decide) hI hJ k0_0 k0_1
  refine Ex.ite (fun c31 => ?_) (fun c31 => ?_)
  ·
    have c31 := icc_le (m := (Int32.toInt p1)) (n := 5) rfl (by decide) c31
    exact J35 p1 g0 L0 (by omega) hI hJ k0_0 k0_1
  ·
    have c31 := icc_nle (m := (Int32.toInt p1)) (n := 5) rfl (by decide) c31
    omega
set_option maxHeartbeats 4000000 in
set_option maxRecDepth 100000 in
theorem sX6_readPart_5_L3 (fu : Nat) (hfu : 1180591620717411303424 ≤ fu) (p1 : Int32) (g0 : Nat → Nat → Int32) (L0 : Nat → Nat → Int64) (hI : zI XT g0) (hJ : pJ g0) (hp1 : (4 ≤ (Int32.toInt p1) ∧ (Int32.toInt p1) ≤ 4)) : Ex (fX6_readPart_5 fu (fX6_readExpr_5 fu 2) p1 g0 L0) (fun (r : Unit) (g1 : Nat → Nat → Int32) (L1 : Nat → Nat → Int64) => zI XT g1 ∧ pJ g1 ∧ g1 2 2 = g0 2 2 ∧ g1 0 13 = g0 0 13) := by
  have k0_0 : g0 2 2 = g0 2 2 := rfl
  have k0_1 : g0 0 13 = g0 0 13 := rfl
  unfold fX6_readPart_5
  have J111 : ∀ (g : Nat → Nat → Int32) (L : Nat → Nat → Int64), zI XT g → pJ g → g 2 2 = g0 2 2 → g 0 13 = g0 0 13 → Ex (fX6_readPart_5_p111 fu (fX6_readExpr_5 fu 2) g L) (fun (r : Unit) (g1 : Nat → Nat → Int32) (L1 : Nat → Nat → Int64) => zI XT g1 ∧ pJ g1 ∧ g1 2 2 = g0 2 2 ∧ g1 0 13 = g0 0 13) := by
    intro g L hI hJ k0_0 k0_1
    unfold fX6_readPart_5_p111
    exact Ex.ret ⟨hI, hJ, k0_0, k0_1⟩
  refine Ex.ite (fun c1 => ?_) (fun c1 => ?_)
  ·
    have c1 := icc_eq (m := (Int32.toInt (g0 5 4))) (n := 1) rfl (by decide) c1
    refine Ex.cb (sX6_readNumber_5 fu hfu 0 9999 g0 L0 hI hJ) (fun x2 g3 L4 hq6 => ?_)
    obtain ⟨hI, hJ, kk0, kk1, rb_⟩ := hq6
    have b7 : 0 ≤ (Int32.toInt x2) ∧ (Int32.toInt x2) ≤ 9999 := rb_
    have hI : zI XT g3 := hI
    have hJ : pJ g3 := hJ
    have k0_0 : g3 2 2 = g0 2 2 := kk0.trans k0_0
    have k0_1 : g3 0 13 = g0 0 13 := kk1.trans k0_1
    refine Ex.cb (sX8_add_4 fu hfu x2 g3 L4 hI hJ) (fun x8 g9 L10 hq12 => ?_)
    obtain ⟨hI, hJ, kk0, kk1⟩ := hq12
    have hI : zI XT g9 := hI
    have hJ : pJ g9 := hJ
    have k0_0 : g9 2 2 = g0 2 2 := kk0.trans k0_0
    have k0_1 : g9 0 13 = g0 0 13 := kk1.trans k0_1
    exact J111 g9 L10 hI hJ k0_0 k0_1
  ·
    have c1 := icc_neq (m := (Int32.toInt (g0 5 4))) (n := 1) rfl (by decide) c1
    refine Ex.ite (fun c13 => ?_) (fun c13 => ?_)
    ·
      have c13 := icc_eq (m := (Int32.toInt (g0 5 4))) (n := 2) rfl (by decide) c13
      refine Ex.cb (sX6_valueNow_5 fu hfu g0 L0 hI hJ) (fun x14 g15 L16 hq18 => ?_)
      obtain ⟨hI, hJ, kk0, kk1, rb_⟩ := hq18
      have b19 : (-1) ≤ (Int32.toInt x14) ∧ (Int32.toInt x14) ≤ 5 := rb_
      have hI : zI XT g15 := hI
      have hJ : pJ g15 := hJ
      have k0_0 : g15 2 2 = g0 2 2 := kk0.trans k0_0
      have k0_1 : g15 0 13 = g0 0 13 := kk1.trans k0_1
      have J52 : ∀ (v2 : Int32) (g : Nat → Nat → Int32) (L : Nat → Nat → Int64), ((-1) ≤ (Int32.toInt v2) ∧ (Int32.toInt v2) ≤ 5) → zI XT g → pJ g → g 2 2 = g0 2 2 → g 0 13 = g0 0 13 → Ex (fX6_readPart_5_p52 fu (fX6_readExpr_5 fu 2) v2 g L) (fun (r : Unit) (g1 : Nat → Nat → Int32) (L1 : Nat → Nat → Int64) => zI XT g1 ∧ pJ g1 ∧ g1 2 2 = g0 2 2 ∧ g1 0 13 = g0 0 13) := by
        intro v2 g L hb_v2 hI hJ k0_0 k0_1
        unfold fX6_readPart_5_p52
        generalize z20q : ((-1) - v2) = z20
        have e21 : (Int32.toInt z20) = (-1) - (Int32.toInt v2) := by rw [← z20q]; exact ic_subc (by decide) rfl (by omega) (by omega)
        refine Ex.cb (sX8_add_4 fu hfu z20 g L hI hJ) (fun x22 g23 L24 hq26 => ?_)
        obtain ⟨hI, hJ, kk0, kk1⟩ := hq26
        have hI : zI XT g23 := hI
        have hJ : pJ g23 := hJ
        have k0_0 : g23 2 2 = g0 2 2 := kk0.trans k0_0
        have k0_1 : g23 0 13 = g0 0 13 := kk1.trans k0_1
        refine Ex.cb (sX6_advance_5 fu hfu g23 L24 hI hJ) (fun x27 g28 L29 hq31 => ?_)
        obtain ⟨hI, hJ, kk0, kk1⟩ := hq31
        have hI : zI XT g28 := hI
        have hJ : pJ g28 := hJ
        have k0_0 : g28 2 2 = g0 2 2 := kk0.trans k0_0
        have k0_1 : g28 0 13 = g0 0 13 := kk1.trans k0_1
        exact J111 g28 L29 hI hJ k0_0 k0_1
      refine Ex.ite (fun c32 => ?_) (fun c32 => ?_)
      ·
        have c32 := icc_eq (m := (Int32.toInt x14)) (n := (-1)) rfl (by decide) c32
        refine Ex.cb (sX6_refuse_5 fu hfu 3 g15 L16 hI hJ) (fun x33 g34 L35 hq37 => ?_)
        obtain ⟨hI, hJ, kk0, kk1⟩ := hq37
        have hI : zI XT g34 := hI
        have hJ : pJ g34 := hJ
        have k0_0 : g34 2 2 = g0 2 2 := kk0.trans k0_0
        have k0_1 : g34 0 13 = g0 0 13 := kk1.trans k0_1
        exact J52 x14 g34 L35 (by omega) hI hJ k0_0 k0_1
      ·
        have c32 := icc_neq (m := (Int32.toInt x14)) (n := (-1)) rfl (by decide) c32
        exact J52 x14 g15 L16 (by omega) hI hJ k0_0 k0_1
    ·
      have c13 := icc_neq (m := (Int32.toInt (g0 5 4))) (n := 2) rfl (by decide) c13
      refine Ex.cb (sX6_isSignNow_5 fu hfu 40 g0 L0 hI hJ) (fun x38 g39 L40 hq42 => ?_)
      obtain ⟨hI, hJ, kk0, kk1, rb_⟩ := hq42
      have b43 : 0 ≤ (Int32.toInt x38) ∧ (Int32.toInt x38) ≤ 1 := rb_
      have hI : zI XT g39 := hI
      have hJ : pJ g39 := hJ
      have k0_0 : g39 2 2 = g0 2 2 := kk0.trans k0_0
      have k0_1 : g39 0 13 = g0 0 13 := kk1.trans k0_1
      have J106 : ∀ (g : Nat → Nat → Int32) (L : Nat → Nat → Int64), zI XT g → pJ g → g 2 2 = g0 2 2 → g 0 13 = g0 0 13 → Ex (fX6_readPart_5_p106 fu (fX6_readExpr_5 fu 2) g L) (fun (r : Unit) (g1 : Nat → Nat → Int32) (L1 : Nat → Nat → Int64) => zI XT g1 ∧ pJ g1 ∧ g1 2 2 = g0 2 2 ∧ g1 0 13 = g0 0 13) := by
        intro g L hI hJ k0_0 k0_1
        unfold fX6_readPart_5_p106
        refine Ex.cb (sX6_refuse_5 fu hfu 1 g L hI hJ) (fun x44 g45 L46 hq48 => ?_)
        obtain ⟨hI, hJ, kk0, kk1⟩ := hq48
        have hI : zI XT g45 := hI
        have hJ : pJ g45 := hJ
        have k0_0 : g45 2 2 = g0 2 2 := kk0.trans k0_0
        have k0_1 : g45 0 13 = g0 0 13 := kk1.trans k0_1
        exact J111 g45 L46 hI hJ k0_0 k0_1
      refine Ex.ite (fun c49 => ?_) (fun c49 => ?_)
      ·
        have c49 := icc_eq (m := (Int32.toInt x38)) (n := 0) rfl (by decide) c49
        exact J106 g39 L40 hI hJ k0_0 k0_1
      ·
        have c49 := icc_neq (m := (Int32.toInt x38)) (n := 0) rfl (by decide) c49
        refine Ex.ite (fun c50 => ?_) (fun c50 => ?_)
        ·
          have c50 := icc_lt (m := 5) (n := (Int32.toInt p1)) (by decide) rfl c50
          omega
        ·
          have c50 := icc_nlt (m := 5) (n := (Int32.toInt p1)) (by decide) rfl c50
          refine Ex.cb (sX6_advance_5 fu hfu g39 L40 hI hJ) (fun x51 g52 L53 hq55 => ?_)
          obtain ⟨hI, hJ, kk0, kk1⟩ := hq55
          have hI : zI XT g52 := hI
          have hJ : pJ g52 := hJ
          have k0_0 : g52 2 2 = g0 2 2 := kk0.trans k0_0
          have k0_1 : g52 0 13 = g0 0 13 := kk1.trans k0_1
          generalize z56q : (p1 + 1) = z56
          have e57 : (Int32.toInt z56) = (Int32.toInt p1) + 1 := by rw [← z56q]; exact ic_addc rfl (by decide) (by omega) (by omega)
          refine Ex.cb (sX6_readExpr_5_L2 fu hfu z56 g52 L53 hI hJ (by omega)) (fun x58 g59 L60 hq62 => ?_)
          obtain ⟨hI, hJ, kk0, kk1⟩ := hq62
          have hI : zI XT g59 := hI
          have hJ : pJ g59 := hJ
          have k0_0 : g59 2 2 = g0 2 2 := kk0.trans k0_0
          have k0_1 : g59 0 13 = g0 0 13 := kk1.trans k0_1
          refine Ex.cb (sX6_readSign_5 fu hfu 41 g59 L60 hI hJ) (fun x63 g64 L65 hq67 => ?_)
          obtain ⟨hI, hJ, kk0, kk1⟩ := hq67
          have hI : zI XT g64 := hI
          have hJ : pJ g64 := hJ
          have k0_0 : g64 2 2 = g0 2 2 := kk0.trans k0_0
          have k0_1 : g64 0 13 = g0 0 13 := kk1.trans k0_1
          exact J111 g64 L65 hI hJ k0_0 k0_1
set_option maxHeartbeats 4000000 in
set_option maxRecDepth 100000 in
theorem sX6_readProduct_5_L3 (fu : Nat) (hfu : 1180591620717411303424 ≤ fu) (p1 : Int32) (g0 : Nat → Nat → Int32) (L0 : Nat → Nat → Int64) (hI : zI XT g0) (hJ : pJ g0) (hp1 : (4 ≤ (Int32.toInt p1) ∧ (Int32.toInt p1) ≤ 4)) : Ex (fX6_readProduct_5 fu (fX6_readExpr_5 fu 2) p1 g0 L0) (fun (r : Unit) (g1 : Nat → Nat → Int32) (L1 : Nat → Nat → Int64) => zI XT g1 ∧ pJ g1 ∧ g1 2 2 = g0 2 2 ∧ g1 0 13 = g0 0 13) := by
  have k0_0 : g0 2 2 = g0 2 2 := rfl
  have k0_1 : g0 0 13 = g0 0 13 := rfl
  unfold fX6_readProduct_5
  refine Ex.cb (sX6_readPart_5_L3 fu hfu p1 g0 L0 hI hJ (by omega)) (fun x1 g2 L3 hq5 => ?_)
  obtain ⟨hI, hJ, kk0, kk1⟩ := hq5
  have hI : zI XT g2 := hI
  have hJ : pJ g2 := hJ
  have k0_0 : g2 2 2 = g0 2 2 := kk0.trans k0_0
  have k0_1 : g2 0 13 = g0 0 13 := kk1.trans k0_1
  have lp7 : ∀ (v1 : Int32) (v2 : Int32) (g : Nat → Nat → Int32) (L : Nat → Nat → Int64), (4 ≤ (Int32.toInt v1) ∧ (Int32.toInt v1) ≤ 4) → (0 ≤ (Int32.toInt v2) ∧ (Int32.toInt v2) ≤ 700) → zI XT g → pJ g → g 2 2 = g0 2 2 → g 0 13 = g0 0 13 → Ex (fX6_readProduct_5_l7 fu (fX6_readExpr_5 fu 2) v1 v2 g L) (fun (r : Unit) (g1 : Nat → Nat → Int32) (L1 : Nat → Nat → Int64) => zI XT g1 ∧ pJ g1 ∧ g1 2 2 = g0 2 2 ∧ g1 0 13 = g0 0 13) := by
    intro v1 v2 g L hb_v1 hb_v2 hI hJ k0_0 k0_1
    unfold fX6_readProduct_5_l7
    refine Ex.loop (fun v => ((4 ≤ (Int32.toInt v1) ∧ (Int32.toInt v1) ≤ 4)) ∧ ((0 ≤ (Int32.toInt (v.1)) ∧ (Int32.toInt (v.1)) ≤ 700)) ∧ (zI XT (v.2.1)) ∧ (pJ (v.2.1)) ∧ ((v.2.1) 2 2 = g0 2 2) ∧ ((v.2.1) 0 13 = g0 0 13)) (fun v => 701 - (Int32.toInt (v.1))) (by omega) (by show 701 - (Int32.toInt v2) < (fu : Int); omega) ⟨hb_v1, hb_v2, hI, hJ, k0_0, k0_1⟩ (fun k7 v hv ih7 => ?_)
    obtain ⟨v2, g, L⟩ := v
    obtain ⟨hb_v1, hb_v2, hI, hJ, k0_0, k0_1⟩ := hv
    have hb_v1 : (4 ≤ (Int32.toInt v1) ∧ (Int32.toInt v1) ≤ 4) := hb_v1
    have hb_v2 : (0 ≤ (Int32.toInt v2) ∧ (Int32.toInt v2) ≤ 700) := hb_v2
    have hI : zI XT g := hI
    have hJ : pJ g := hJ
    have k0_0 : g 2 2 = g0 2 2 := k0_0
    have k0_1 : g 0 13 = g0 0 13 := k0_1
    have ih7 : ∀ v' : Int32 × (Nat → Nat → Int32) × (Nat → Nat → Int64), (((4 ≤ (Int32.toInt v1) ∧ (Int32.toInt v1) ≤ 4)) ∧ ((0 ≤ (Int32.toInt (v'.1)) ∧ (Int32.toInt (v'.1)) ≤ 700)) ∧ (zI XT (v'.2.1)) ∧ (pJ (v'.2.1)) ∧ ((v'.2.1) 2 2 = g0 2 2) ∧ ((v'.2.1) 0 13 = g0 0 13)) → 701 - (Int32.toInt (v'.1)) < 701 - (Int32.toInt v2) → 0 < 701 - (Int32.toInt v2) → Ex (k7 v') (fun (r : Unit) (g1 : Nat → Nat → Int32) (L1 : Nat → Nat → Int64) => zI XT g1 ∧ pJ g1 ∧ g1 2 2 = g0 2 2 ∧ g1 0 13 = g0 0 13) := ih7
    show Ex (fX6_readProduct_5_s7 fu (fX6_readExpr_5 fu 2) v1 k7 v2 g L) (fun (r : Unit) (g1 : Nat → Nat → Int32) (L1 : Nat → Nat → Int64) => zI XT g1 ∧ pJ g1 ∧ g1 2 2 = g0 2 2 ∧ g1 0 13 = g0 0 13)
    unfold fX6_readProduct_5_s7
    have J75 : ∀ (g : Nat → Nat → Int32) (L : Nat → Nat → Int64), zI XT g → pJ g → g 2 2 = g0 2 2 → g 0 13 = g0 0 13 → Ex (fX6_readProduct_5_p75 fu (fX6_readExpr_5 fu 2) g L) (fun (r : Unit) (g1 : Nat → Nat → Int32) (L1 : Nat → Nat → Int64) => zI XT g1 ∧ pJ g1 ∧ g1 2 2 = g0 2 2 ∧ g1 0 13 = g0 0 13) := by
      intro g L hI hJ k0_0 k0_1
      unfold fX6_readProduct_5_p75
      exact Ex.ret ⟨hI, hJ, k0_0, k0_1⟩
    refine Ex.ite (fun c6 => ?_) (fun c6 => ?_)
    ·
      have c6 := icc_le (m := 700) (n := (Int32.toInt v2)) (by decide) rfl c6
      exact J75 g L hI hJ k0_0 k0_1
    ·
      have c6 := icc_nle (m := 700) (n := (Int32.toInt v2)) (by decide) rfl c6
      refine Ex.cb (sX6_isSignNow_5 fu hfu 42 g L hI hJ) (fun x7 g8 L9 hq11 => ?_)
      obtain ⟨hI, hJ, kk0, kk1, rb_⟩ := hq11
      have b12 : 0 ≤ (Int32.toInt x7) ∧ (Int32.toInt x7) ≤ 1 := rb_
      have hI : zI XT g8 := hI
      have hJ : pJ g8 := hJ
      have k0_0 : g8 2 2 = g0 2 2 := kk0.trans k0_0
      have k0_1 : g8 0 13 = g0 0 13 := kk1.trans k0_1
      have J32 : ∀ (g : Nat → Nat → Int32) (L : Nat → Nat → Int64), (4 ≤ (Int32.toInt v1) ∧ (Int32.toInt v1) ≤ 4) → (0 ≤ (Int32.toInt v2) ∧ (Int32.toInt v2) ≤ 699) → zI XT g → pJ g → g 2 2 = g0 2 2 → g 0 13 = g0 0 13 → Ex (fX6_readProduct_5_p32 fu (fX6_readExpr_5 fu 2) k7 v1 v2 g L) (fun (r : Unit) (g1 : Nat → Nat → Int32) (L1 : Nat → Nat → Int64) => zI XT g1 ∧ pJ g1 ∧ g1 2 2 = g0 2 2 ∧ g1 0 13 = g0 0 13) := by
        intro g L hb_v1 hb_v2 hI hJ k0_0 k0_1
        unfold fX6_readProduct_5_p32
        refine Ex.cb (sX6_isSignNow_5 fu hfu 42 g L hI hJ) (fun x13 g14 L15 hq17 => ?_)
        obtain ⟨hI, hJ, kk0, kk1, rb_⟩ := hq17
        have b18 : 0 ≤ (Int32.toInt x13) ∧ (Int32.toInt x13) ≤ 1 := rb_
        have hI : zI XT g14 := hI
        have hJ : pJ g14 := hJ
        have k0_0 : g14 2 2 = g0 2 2 := kk0.trans k0_0
        have k0_1 : g14 0 13 = g0 0 13 := kk1.trans k0_1
        have J48 : ∀ (t0 : Int32) (g : Nat → Nat → Int32) (L : Nat → Nat → Int64), (4 ≤ (Int32.toInt v1) ∧ (Int32.toInt v1) ≤ 4) → (0 ≤ (Int32.toInt v2) ∧ (Int32.toInt v2) ≤ 699) → ((-10) ≤ (Int32.toInt t0) ∧ (Int32.toInt t0) ≤ (-9)) → zI XT g → pJ g → g 2 2 = g0 2 2 → g 0 13 = g0 0 13 → Ex (fX6_readProduct_5_p48 fu (fX6_readExpr_5 fu 2) k7 v1 v2 t0 g L) (fun (r : Unit) (g1 : Nat → Nat → Int32) (L1 : Nat → Nat → Int64) => zI XT g1 ∧ pJ g1 ∧ g1 2 2 = g0 2 2 ∧ g1 0 13 = g0 0 13) := by
          intro t0 g L hb_v1 hb_v2 hb_t0 hI hJ k0_0 k0_1
          unfold fX6_readProduct_5_p48
          refine Ex.cb (sX6_advance_5 fu hfu g L hI hJ) (fun x19 g20 L21 hq23 => ?_)
          obtain ⟨hI, hJ, kk0, kk1⟩ := hq23
          have hI : zI XT g20 := hI
          have hJ : pJ g20 := hJ
          have k0_0 : g20 2 2 = g0 2 2 := kk0.trans k0_0
          have k0_1 : g20 0 13 = g0 0 13 := kk1.trans k0_1
          refine Ex.cb (sX6_readPart_5_L3 fu hfu v1 g20 L21 hI hJ (by omega)) (fun x24 g25 L26 hq28 => ?_)
          obtain ⟨hI, hJ, kk0, kk1⟩ := hq28
          have hI : zI XT g25 := hI
          have hJ : pJ g25 := hJ
          have k0_0 : g25 2 2 = g0 2 2 := kk0.trans k0_0
          have k0_1 : g25 0 13 = g0 0 13 := kk1.trans k0_1
          refine Ex.cb (sX8_add_4 fu hfu t0 g25 L26 hI hJ) (fun x29 g30 L31 hq33 => ?_)
          obtain ⟨hI, hJ, kk0, kk1⟩ := hq33
          have hI : zI XT g30 := hI
          have hJ : pJ g30 := hJ
          have k0_0 : g30 2 2 = g0 2 2 := kk0.trans k0_0
          have k0_1 : g30 0 13 = g0 0 13 := kk1.trans k0_1
          generalize z34q : (v2 + 1) = z34
          have e35 : (Int32.toInt z34) = (Int32.toInt v2) + 1 := by rw [← z34q]; exact ic_addc rfl (by decide) (by omega) (by omega)
          exact ih7 (z34, g30, L31) ⟨(show (4 ≤ (Int32.toInt v1) ∧ (Int32.toInt v1) ≤ 4) from by omega), (show (0 ≤ (Int32.toInt z34) ∧ (Int32.toInt z34) ≤ 700) from by omega), hI, hJ, k0_0, k0_1⟩ (by show 701 - (Int32.toInt z34) < _; omega) (by omega)
        refine Ex.ite (fun c36 => ?_) (fun c36 => ?_)
        ·
          have c36 := icc_eq (m := (Int32.toInt x13)) (n := 0) rfl (by decide) c36
          exact J48 (-10) g14 L15 (by omega) (by omega) (by decide) hI hJ k0_0 k0_1
        ·
          have c36 := icc_neq (m := (Int32.toInt x13)) (n := 0) rfl (by decide) c36
          exact J48 (-9) g14 L15 (by omega) (by omega) (by decide) hI hJ k0_0 k0_1
      refine Ex.ite (fun c37 => ?_) (fun c37 => ?_)
      ·
        have c37 := icc_eq (m := (Int32.toInt x7)) (n := 0) rfl (by decide) c37
        refine Ex.cb (sX6_isSignNow_5 fu hfu 47 g8 L9 hI hJ) (fun x38 g39 L40 hq42 => ?_)
        obtain ⟨hI, hJ, kk0, kk1, rb_⟩ := hq42
        have b43 : 0 ≤ (Int32.toInt x38) ∧ (Int32.toInt x38) ≤ 1 := rb_
        have hI : zI XT g39 := hI
        have hJ : pJ g39 := hJ
        have k0_0 : g39 2 2 = g0 2 2 := kk0.trans k0_0
        have k0_1 : g39 0 13 = g0 0 13 := kk1.trans k0_1
        refine Ex.ite (fun c44 => ?_) (fun c44 => ?_)
        ·
          have c44 := icc_eq (m := (Int32.toInt x38)) (n := 0) rfl (by decide) c44
          exact J75 g39 L40 hI hJ k0_0 k0_1
        ·
          have c44 := icc_neq (m := (Int32.toInt x38)) (n := 0) rfl (by decide) c44
          exact J32 g39 L40 (by omega) (by omega) hI hJ k0_0 k0_1
      ·
        have c37 := icc_neq (m := (Int32.toInt x7)) (n := 0) rfl (by decide) c37
        exact J32 g8 L9 (by omega) (by omega) hI hJ k0_0 k0_1
  exact lp7 p1 0 g2 L3 (by omega) (by decide) hI hJ k0_0 k0_1
set_option maxHeartbeats 4000000 in
set_option maxRecDepth 100000 in
theorem sX6_readSum_5_L3 (fu : Nat) (hfu : 1180591620717411303424 ≤ fu) (p1 : Int32) (g0 : Nat → Nat → Int32) (L0 : Nat → Nat → Int64) (hI : zI XT g0) (hJ : pJ g0) (hp1 : (4 ≤ (Int32.toInt p1) ∧ (Int32.toInt p1) ≤ 4)) : Ex (fX6_readSum_5 fu (fX6_readExpr_5 fu 2) p1 g0 L0) (fun (r : Unit) (g1 : Nat → Nat → Int32) (L1 : Nat → Nat → Int64) => zI XT g1 ∧ pJ g1 ∧ g1 2 2 = g0 2 2 ∧ g1 0 13 = g0 0 13) := by
  have k0_0 : g0 2 2 = g0 2 2 := rfl
  have k0_1 : g0 0 13 = g0 0 13 := rfl
  unfold fX6_readSum_5
  refine Ex.cb (sX6_readProduct_5_L3 fu hfu p1 g0 L0 hI hJ (by omega)) (fun x1 g2 L3 hq5 => ?_)
  obtain ⟨hI, hJ, kk0, kk1⟩ := hq5
  have hI : zI XT g2 := hI
  have hJ : pJ g2 := hJ
  have k0_0 : g2 2 2 = g0 2 2 := kk0.trans k0_0
  have k0_1 : g2 0 13 = g0 0 13 := kk1.trans k0_1
  have lp7 : ∀ (v1 : Int32) (v2 : Int32) (g : Nat → Nat → Int32) (L : Nat → Nat → Int64), (4 ≤ (Int32.toInt v1) ∧ (Int32.toInt v1) ≤ 4) → (0 ≤ (Int32.toInt v2) ∧ (Int32.toInt v2) ≤ 700) → zI XT g → pJ g → g 2 2 = g0 2 2 → g 0 13 = g0 0 13 → Ex (fX6_readSum_5_l7 fu (fX6_readExpr_5 fu 2) v1 v2 g L) (fun (r : Unit) (g1 : Nat → Nat → Int32) (L1 : Nat → Nat → Int64) => zI XT g1 ∧ pJ g1 ∧ g1 2 2 = g0 2 2 ∧ g1 0 13 = g0 0 13) := by
    intro v1 v2 g L hb_v1 hb_v2 hI hJ k0_0 k0_1
    unfold fX6_readSum_5_l7
    refine Ex.loop (fun v => ((4 ≤ (Int32.toInt v1) ∧ (Int32.toInt v1) ≤ 4)) ∧ ((0 ≤ (Int32.toInt (v.1)) ∧ (Int32.toInt (v.1)) ≤ 700)) ∧ (zI XT (v.2.1)) ∧ (pJ (v.2.1)) ∧ ((v.2.1) 2 2 = g0 2 2) ∧ ((v.2.1) 0 13 = g0 0 13)) (fun v => 701 - (Int32.toInt (v.1))) (by omega) (by show 701 - (Int32.toInt v2) < (fu : Int); omega) ⟨hb_v1, hb_v2, hI, hJ, k0_0, k0_1⟩ (fun k7 v hv ih7 => ?_)
    obtain ⟨v2, g, L⟩ := v
    obtain ⟨hb_v1, hb_v2, hI, hJ, k0_0, k0_1⟩ := hv
    have hb_v1 : (4 ≤ (Int32.toInt v1) ∧ (Int32.toInt v1) ≤ 4) := hb_v1
    have hb_v2 : (0 ≤ (Int32.toInt v2) ∧ (Int32.toInt v2) ≤ 700) := hb_v2
    have hI : zI XT g := hI
    have hJ : pJ g := hJ
    have k0_0 : g 2 2 = g0 2 2 := k0_0
    have k0_1 : g 0 13 = g0 0 13 := k0_1
    have ih7 : ∀ v' : Int32 × (Nat → Nat → Int32) × (Nat → Nat → Int64), (((4 ≤ (Int32.toInt v1) ∧ (Int32.toInt v1) ≤ 4)) ∧ ((0 ≤ (Int32.toInt (v'.1)) ∧ (Int32.toInt (v'.1)) ≤ 700)) ∧ (zI XT (v'.2.1)) ∧ (pJ (v'.2.1)) ∧ ((v'.2.1) 2 2 = g0 2 2) ∧ ((v'.2.1) 0 13 = g0 0 13)) → 701 - (Int32.toInt (v'.1)) < 701 - (Int32.toInt v2) → 0 < 701 - (Int32.toInt v2) → Ex (k7 v') (fun (r : Unit) (g1 : Nat → Nat → Int32) (L1 : Nat → Nat → Int64) => zI XT g1 ∧ pJ g1 ∧ g1 2 2 = g0 2 2 ∧ g1 0 13 = g0 0 13) := ih7
    show Ex (fX6_readSum_5_s7 fu (fX6_readExpr_5 fu 2) v1 k7 v2 g L) (fun (r : Unit) (g1 : Nat → Nat → Int32) (L1 : Nat → Nat → Int64) => zI XT g1 ∧ pJ g1 ∧ g1 2 2 = g0 2 2 ∧ g1 0 13 = g0 0 13)
    unfold fX6_readSum_5_s7
    have J75 : ∀ (g : Nat → Nat → Int32) (L : Nat → Nat → Int64), zI XT g → pJ g → g 2 2 = g0 2 2 → g 0 13 = g0 0 13 → Ex (fX6_readSum_5_p75 fu (fX6_readExpr_5 fu 2) g L) (fun (r : Unit) (g1 : Nat → Nat → Int32) (L1 : Nat → Nat → Int64) => zI XT g1 ∧ pJ g1 ∧ g1 2 2 = g0 2 2 ∧ g1 0 13 = g0 0 13) := by
      intro g L hI hJ k0_0 k0_1
      unfold fX6_readSum_5_p75
      exact Ex.ret ⟨hI, hJ, k0_0, k0_1⟩
    refine Ex.ite (fun c6 => ?_) (fun c6 => ?_)
    ·
      have c6 := icc_le (m := 700) (n := (Int32.toInt v2)) (by decide) rfl c6
      exact J75 g L hI hJ k0_0 k0_1
    ·
      have c6 := icc_nle (m := 700) (n := (Int32.toInt v2)) (by decide) rfl c6
      refine Ex.cb (sX6_isSignNow_5 fu hfu 43 g L hI hJ) (fun x7 g8 L9 hq11 => ?_)
      obtain ⟨hI, hJ, kk0, kk1, rb_⟩ := hq11
      have b12 : 0 ≤ (Int32.toInt x7) ∧ (Int32.toInt x7) ≤ 1 := rb_
      have hI : zI XT g8 := hI
      have hJ : pJ g8 := hJ
      have k0_0 : g8 2 2 = g0 2 2 := kk0.trans k0_0
      have k0_1 : g8 0 13 = g0 0 13 := kk1.trans k0_1
      have J32 : ∀ (g : Nat → Nat → Int32) (L : Nat → Nat → Int64), (4 ≤ (Int32.toInt v1) ∧ (Int32.toInt v1) ≤ 4) → (0 ≤ (Int32.toInt v2) ∧ (Int32.toInt v2) ≤ 699) → zI XT g → pJ g → g 2 2 = g0 2 2 → g 0 13 = g0 0 13 → Ex (fX6_readSum_5_p32 fu (fX6_readExpr_5 fu 2) k7 v1 v2 g L) (fun (r : Unit) (g1 : Nat → Nat → Int32) (L1 : Nat → Nat → Int64) => zI XT g1 ∧ pJ g1 ∧ g1 2 2 = g0 2 2 ∧ g1 0 13 = g0 0 13) := by
        intro g L hb_v1 hb_v2 hI hJ k0_0 k0_1
        unfold fX6_readSum_5_p32
        refine Ex.cb (sX6_isSignNow_5 fu hfu 43 g L hI hJ) (fun x13 g14 L15 hq17 => ?_)
        obtain ⟨hI, hJ, kk0, kk1, rb_⟩ := hq17
        have b18 : 0 ≤ (Int32.toInt x13) ∧ (Int32.toInt x13) ≤ 1 := rb_
        have hI : zI XT g14 := hI
        have hJ : pJ g14 := hJ
        have k0_0 : g14 2 2 = g0 2 2 := kk0.trans k0_0
        have k0_1 : g14 0 13 = g0 0 13 := kk1.trans k0_1
        have J48 : ∀ (t0 : Int32) (g : Nat → Nat → Int32) (L : Nat → Nat → Int64), (4 ≤ (Int32.toInt v1) ∧ (Int32.toInt v1) ≤ 4) → (0 ≤ (Int32.toInt v2) ∧ (Int32.toInt v2) ≤ 699) → ((-8) ≤ (Int32.toInt t0) ∧ (Int32.toInt t0) ≤ (-7)) → zI XT g → pJ g → g 2 2 = g0 2 2 → g 0 13 = g0 0 13 → Ex (fX6_readSum_5_p48 fu (fX6_readExpr_5 fu 2) k7 v1 v2 t0 g L) (fun (r : Unit) (g1 : Nat → Nat → Int32) (L1 : Nat → Nat → Int64) => zI XT g1 ∧ pJ g1 ∧ g1 2 2 = g0 2 2 ∧ g1 0 13 = g0 0 13) := by
          intro t0 g L hb_v1 hb_v2 hb_t0 hI hJ k0_0 k0_1
          unfold fX6_readSum_5_p48
          refine Ex.cb (sX6_advance_5 fu hfu g L hI hJ) (fun x19 g20 L21 hq23 => ?_)
          obtain ⟨hI, hJ, kk0, kk1⟩ := hq23
          have hI : zI XT g20 := hI
          have hJ : pJ g20 := hJ
          have k0_0 : g20 2 2 = g0 2 2 := kk0.trans k0_0
          have k0_1 : g20 0 13 = g0 0 13 := kk1.trans k0_1
          refine Ex.cb (sX6_readProduct_5_L3 fu hfu v1 g20 L21 hI hJ (by omega)) (fun x24 g25 L26 hq28 => ?_)
          obtain ⟨hI, hJ, kk0, kk1⟩ := hq28
          have hI : zI XT g25 := hI
          have hJ : pJ g25 := hJ
          have k0_0 : g25 2 2 = g0 2 2 := kk0.trans k0_0
          have k0_1 : g25 0 13 = g0 0 13 := kk1.trans k0_1
          refine Ex.cb (sX8_add_4 fu hfu t0 g25 L26 hI hJ) (fun x29 g30 L31 hq33 => ?_)
          obtain ⟨hI, hJ, kk0, kk1⟩ := hq33
          have hI : zI XT g30 := hI
          have hJ : pJ g30 := hJ
          have k0_0 : g30 2 2 = g0 2 2 := kk0.trans k0_0
          have k0_1 : g30 0 13 = g0 0 13 := kk1.trans k0_1
          generalize z34q : (v2 + 1) = z34
          have e35 : (Int32.toInt z34) = (Int32.toInt v2) + 1 := by rw [← z34q]; exact ic_addc rfl (by decide) (by omega) (by omega)
          exact ih7 (z34, g30, L31) ⟨(show (4 ≤ (Int32.toInt v1) ∧ (Int32.toInt v1) ≤ 4) from by omega), (show (0 ≤ (Int32.toInt z34) ∧ (Int32.toInt z34) ≤ 700) from by omega), hI, hJ, k0_0, k0_1⟩ (by show 701 - (Int32.toInt z34) < _; omega) (by omega)
        refine Ex.ite (fun c36 => ?_) (fun c36 => ?_)
        ·
          have c36 := icc_eq (m := (Int32.toInt x13)) (n := 0) rfl (by decide) c36
          exact J48 (-8) g14 L15 (by omega) (by omega) (by decide) hI hJ k0_0 k0_1
        ·
          have c36 := icc_neq (m := (Int32.toInt x13)) (n := 0) rfl (by decide) c36
          exact J48 (-7) g14 L15 (by omega) (by omega) (by decide) hI hJ k0_0 k0_1
      refine Ex.ite (fun c37 => ?_) (fun c37 => ?_)
      ·
        have c37 := icc_eq (m := (Int32.toInt x7)) (n := 0) rfl (by decide) c37
        refine Ex.cb (sX6_isSignNow_5 fu hfu 45 g8 L9 hI hJ) (fun x38 g39 L40 hq42 => ?_)
        obtain ⟨hI, hJ, kk0, kk1, rb_⟩ := hq42
        have b43 : 0 ≤ (Int32.toInt x38) ∧ (Int32.toInt x38) ≤ 1 := rb_
        have hI : zI XT g39 := hI
        have hJ : pJ g39 := hJ
        have k0_0 : g39 2 2 = g0 2 2 := kk0.trans k0_0
        have k0_1 : g39 0 13 = g0 0 13 := kk1.trans k0_1
        refine Ex.ite (fun c44 => ?_) (fun c44 => ?_)
        ·
          have c44 := icc_eq (m := (Int32.toInt x38)) (n := 0) rfl (by decide) c44
          exact J75 g39 L40 hI hJ k0_0 k0_1
        ·
          have c44 := icc_neq (m := (Int32.toInt x38)) (n := 0) rfl (by decide) c44
          exact J32 g39 L40 (by omega) (by omega) hI hJ k0_0 k0_1
      ·
        have c37 := icc_neq (m := (Int32.toInt x7)) (n := 0) rfl (by decide) c37
        exact J32 g8 L9 (by omega) (by omega) hI hJ k0_0 k0_1
  exact lp7 p1 0 g2 L3 (by omega) (by decide) hI hJ k0_0 k0_1
set_option maxHeartbeats 4000000 in
set_option maxRecDepth 100000 in
theorem sX6_readTest_5_L3 (fu : Nat) (hfu : 1180591620717411303424 ≤ fu) (p1 : Int32) (g0 : Nat → Nat → Int32) (L0 : Nat → Nat → Int64) (hI : zI XT g0) (hJ : pJ g0) (hp1 : (4 ≤ (Int32.toInt p1) ∧ (Int32.toInt p1) ≤ 4)) : Ex (fX6_readTest_5 fu (fX6_readExpr_5 fu 2) p1 g0 L0) (fun (r : Unit) (g1 : Nat → Nat → Int32) (L1 : Nat → Nat → Int64) => zI XT g1 ∧ pJ g1 ∧ g1 2 2 = g0 2 2 ∧ g1 0 13 = g0 0 13) := by
  have k0_0 : g0 2 2 = g0 2 2 := rfl
  have k0_1 : g0 0 13 = g0 0 13 := rfl
  unfold fX6_readTest_5
  refine Ex.cb (sX6_readSum_5_L3 fu hfu p1 g0 L0 hI hJ (by omega)) (fun x1 g2 L3 hq5 => ?_)
  obtain ⟨hI, hJ, kk0, kk1⟩ := hq5
  have hI : zI XT g2 := hI
  have hJ : pJ g2 := hJ
  have k0_0 : g2 2 2 = g0 2 2 := kk0.trans k0_0
  have k0_1 : g2 0 13 = g0 0 13 := kk1.trans k0_1
  refine Ex.cb (sX6_isSignNow_5 fu hfu 60 g2 L3 hI hJ) (fun x6 g7 L8 hq10 => ?_)
  obtain ⟨hI, hJ, kk0, kk1, rb_⟩ := hq10
  have b11 : 0 ≤ (Int32.toInt x6) ∧ (Int32.toInt x6) ≤ 1 := rb_
  have hI : zI XT g7 := hI
  have hJ : pJ g7 := hJ
  have k0_0 : g7 2 2 = g0 2 2 := kk0.trans k0_0
  have k0_1 : g7 0 13 = g0 0 13 := kk1.trans k0_1
  have J68 : ∀ (g : Nat → Nat → Int32) (L : Nat → Nat → Int64), zI XT g → pJ g → g 2 2 = g0 2 2 → g 0 13 = g0 0 13 → Ex (fX6_readTest_5_p68 fu (fX6_readExpr_5 fu 2) g L) (fun (r : Unit) (g1 : Nat → Nat → Int32) (L1 : Nat → Nat → Int64) => zI XT g1 ∧ pJ g1 ∧ g1 2 2 = g0 2 2 ∧ g1 0 13 = g0 0 13) := by
    intro g L hI hJ k0_0 k0_1
    unfold fX6_readTest_5_p68
    exact Ex.ret ⟨hI, hJ, k0_0, k0_1⟩
  refine Ex.ite (fun c12 => ?_) (fun c12 => ?_)
  ·
    have c12 := icc_eq (m := (Int32.toInt x6)) (n := 0) rfl (by decide) c12
    refine Ex.cb (sX6_isSignNow_5 fu hfu 61 g7 L8 hI hJ) (fun x13 g14 L15 hq17 => ?_)
    obtain ⟨hI, hJ, kk0, kk1, rb_⟩ := hq17
    have b18 : 0 ≤ (Int32.toInt x13) ∧ (Int32.toInt x13) ≤ 1 := rb_
    have hI : zI XT g14 := hI
    have hJ : pJ g14 := hJ
    have k0_0 : g14 2 2 = g0 2 2 := kk0.trans k0_0
    have k0_1 : g14 0 13 = g0 0 13 := kk1.trans k0_1
    refine Ex.ite (fun c19 => ?_) (fun c19 => ?_)
    ·
      have c19 := icc_eq (m := (Int32.toInt x13)) (n := 0) rfl (by decide) c19
      exact J68 g14 L15 hI hJ k0_0 k0_1
    ·
      have c19 := icc_neq (m := (Int32.toInt x13)) (n := 0) rfl (by decide) c19
      refine Ex.cb (sX6_advance_5 fu hfu g14 L15 hI hJ) (fun x20 g21 L22 hq24 => ?_)
      obtain ⟨hI, hJ, kk0, kk1⟩ := hq24
      have hI : zI XT g21 := hI
      have hJ : pJ g21 := hJ
      have k0_0 : g21 2 2 = g0 2 2 := kk0.trans k0_0
      have k0_1 : g21 0 13 = g0 0 13 := kk1.trans k0_1
      refine Ex.cb (sX6_readSum_5_L3 fu hfu p1 g21 L22 hI hJ (by omega)) (fun x25 g26 L27 hq29 => ?_)
      obtain ⟨hI, hJ, kk0, kk1⟩ := hq29
      have hI : zI XT g26 := hI
      have hJ : pJ g26 := hJ
      have k0_0 : g26 2 2 = g0 2 2 := kk0.trans k0_0
      have k0_1 : g26 0 13 = g0 0 13 := kk1.trans k0_1
      refine Ex.cb (sX8_add_4 fu hfu (-12) g26 L27 hI hJ) (fun x30 g31 L32 hq34 => ?_)
      obtain ⟨hI, hJ, kk0, kk1⟩ := hq34
      have hI : zI XT g31 := hI
      have hJ : pJ g31 := hJ
      have k0_0 : g31 2 2 = g0 2 2 := kk0.trans k0_0
      have k0_1 : g31 0 13 = g0 0 13 := kk1.trans k0_1
      exact J68 g31 L32 hI hJ k0_0 k0_1
  ·
    have c12 := icc_neq (m := (Int32.toInt x6)) (n := 0) rfl (by decide) c12
    refine Ex.cb (sX6_advance_5 fu hfu g7 L8 hI hJ) (fun x35 g36 L37 hq39 => ?_)
    obtain ⟨hI, hJ, kk0, kk1⟩ := hq39
    have hI : zI XT g36 := hI
    have hJ : pJ g36 := hJ
    have k0_0 : g36 2 2 = g0 2 2 := kk0.trans k0_0
    have k0_1 : g36 0 13 = g0 0 13 := kk1.trans k0_1
    refine Ex.cb (sX6_readSum_5_L3 fu hfu p1 g36 L37 hI hJ (by omega)) (fun x40 g41 L42 hq44 => ?_)
    obtain ⟨hI, hJ, kk0, kk1⟩ := hq44
    have hI : zI XT g41 := hI
    have hJ : pJ g41 := hJ
    have k0_0 : g41 2 2 = g0 2 2 := kk0.trans k0_0
    have k0_1 : g41 0 13 = g0 0 13 := kk1.trans k0_1
    refine Ex.cb (sX8_add_4 fu hfu (-11) g41 L42 hI hJ) (fun x45 g46 L47 hq49 => ?_)
    obtain ⟨hI, hJ, kk0, kk1⟩ := hq49
    have hI : zI XT g46 := hI
    have hJ : pJ g46 := hJ
    have k0_0 : g46 2 2 = g0 2 2 := kk0.trans k0_0
    have k0_1 : g46 0 13 = g0 0 13 := kk1.trans k0_1
    exact J68 g46 L47 hI hJ k0_0 k0_1
set_option maxHeartbeats 4000000 in
set_option maxRecDepth 100000 in
theorem sX6_readNot_5_L3 (fu : Nat) (hfu : 1180591620717411303424 ≤ fu) (p1 : Int32) (g0 : Nat → Nat → Int32) (L0 : Nat → Nat → Int64) (hI : zI XT g0) (hJ : pJ g0) (hp1 : (4 ≤ (Int32.toInt p1) ∧ (Int32.toInt p1) ≤ 4)) : Ex (fX6_readNot_5 fu (fX6_readExpr_5 fu 2) p1 g0 L0) (fun (r : Unit) (g1 : Nat → Nat → Int32) (L1 : Nat → Nat → Int64) => zI XT g1 ∧ pJ g1 ∧ g1 2 2 = g0 2 2 ∧ g1 0 13 = g0 0 13) := by
  have k0_0 : g0 2 2 = g0 2 2 := rfl
  have k0_1 : g0 0 13 = g0 0 13 := rfl
  unfold fX6_readNot_5
  have lp2 : ∀ (v1 : Int32) (v2 : Int32) (g : Nat → Nat → Int32) (L : Nat → Nat → Int64), (4 ≤ (Int32.toInt v1) ∧ (Int32.toInt v1) ≤ 4) → (0 ≤ (Int32.toInt v2) ∧ (Int32.toInt v2) ≤ 6) → zI XT g → pJ g → g 2 2 = g0 2 2 → g 0 13 = g0 0 13 → Ex (fX6_readNot_5_l2 fu (fX6_readExpr_5 fu 2) v1 v2 g L) (fun (r : Unit) (g1 : Nat → Nat → Int32) (L1 : Nat → Nat → Int64) => zI XT g1 ∧ pJ g1 ∧ g1 2 2 = g0 2 2 ∧ g1 0 13 = g0 0 13) := by
    intro v1 v2 g L hb_v1 hb_v2 hI hJ k0_0 k0_1
    unfold fX6_readNot_5_l2
    refine Ex.loop (fun v => ((4 ≤ (Int32.toInt v1) ∧ (Int32.toInt v1) ≤ 4)) ∧ ((0 ≤ (Int32.toInt (v.1)) ∧ (Int32.toInt (v.1)) ≤ 6)) ∧ (zI XT (v.2.1)) ∧ (pJ (v.2.1)) ∧ ((v.2.1) 2 2 = g0 2 2) ∧ ((v.2.1) 0 13 = g0 0 13)) (fun v => 7 - (Int32.toInt (v.1))) (by omega) (by show 7 - (Int32.toInt v2) < (fu : Int); omega) ⟨hb_v1, hb_v2, hI, hJ, k0_0, k0_1⟩ (fun k2 v hv ih2 => ?_)
    obtain ⟨v2, g, L⟩ := v
    obtain ⟨hb_v1, hb_v2, hI, hJ, k0_0, k0_1⟩ := hv
    have hb_v1 : (4 ≤ (Int32.toInt v1) ∧ (Int32.toInt v1) ≤ 4) := hb_v1
    have hb_v2 : (0 ≤ (Int32.toInt v2) ∧ (Int32.toInt v2) ≤ 6) := hb_v2
    have hI : zI XT g := hI
    have hJ : pJ g := hJ
    have k0_0 : g 2 2 = g0 2 2 := k0_0
    have k0_1 : g 0 13 = g0 0 13 := k0_1
    have ih2 : ∀ v' : Int32 × (Nat → Nat → Int32) × (Nat → Nat → Int64), (((4 ≤ (Int32.toInt v1) ∧ (Int32.toInt v1) ≤ 4)) ∧ ((0 ≤ (Int32.toInt (v'.1)) ∧ (Int32.toInt (v'.1)) ≤ 6)) ∧ (zI XT (v'.2.1)) ∧ (pJ (v'.2.1)) ∧ ((v'.2.1) 2 2 = g0 2 2) ∧ ((v'.2.1) 0 13 = g0 0 13)) → 7 - (Int32.toInt (v'.1)) < 7 - (Int32.toInt v2) → 0 < 7 - (Int32.toInt v2) → Ex (k2 v') (fun (r : Unit) (g1 : Nat → Nat → Int32) (L1 : Nat → Nat → Int64) => zI XT g1 ∧ pJ g1 ∧ g1 2 2 = g0 2 2 ∧ g1 0 13 = g0 0 13) := ih2
    show Ex (fX6_readNot_5_s2 fu (fX6_readExpr_5 fu 2) v1 k2 v2 g L) (fun (r : Unit) (g1 : Nat → Nat → Int32) (L1 : Nat → Nat → Int64) => zI XT g1 ∧ pJ g1 ∧ g1 2 2 = g0 2 2 ∧ g1 0 13 = g0 0 13)
    unfold fX6_readNot_5_s2
    have J27 : ∀ (v1 : Int32) (v2 : Int32) (g : Nat → Nat → Int32) (L : Nat → Nat → Int64), (4 ≤ (Int32.toInt v1) ∧ (Int32.toInt v1) ≤ 4) → (0 ≤ (Int32.toInt v2) ∧ (Int32.toInt v2) ≤ 6) → zI XT g → pJ g → g 2 2 = g0 2 2 → g 0 13 = g0 0 13 → Ex (fX6_readNot_5_p27 fu (fX6_readExpr_5 fu 2) v1 v2 g L) (fun (r : Unit) (g1 : Nat → Nat → Int32) (L1 : Nat → Nat → Int64) => zI XT g1 ∧ pJ g1 ∧ g1 2 2 = g0 2 2 ∧ g1 0 13 = g0 0 13) := by
      intro v1 v2 g L hb_v1 hb_v2 hI hJ k0_0 k0_1
      unfold fX6_readNot_5_p27
      refine Ex.cb (sX6_isWord_5_not fu hfu g L hI hJ) (fun x1 g2 L3 hq5 => ?_)
      obtain ⟨hI, hJ, kk0, kk1, rb_⟩ := hq5
      have b6 : 0 ≤ (Int32.toInt x1) ∧ (Int32.toInt x1) ≤ 1 := rb_
      have hI : zI XT g2 := hI
      have hJ : pJ g2 := hJ
      have k0_0 : g2 2 2 = g0 2 2 := kk0.trans k0_0
      have k0_1 : g2 0 13 = g0 0 13 := kk1.trans k0_1
      have J47 : ∀ (v1 : Int32) (v2 : Int32) (g : Nat → Nat → Int32) (L : Nat → Nat → Int64), (4 ≤ (Int32.toInt v1) ∧ (Int32.toInt v1) ≤ 4) → (0 ≤ (Int32.toInt v2) ∧ (Int32.toInt v2) ≤ 6) → zI XT g → pJ g → g 2 2 = g0 2 2 → g 0 13 = g0 0 13 → Ex (fX6_readNot_5_p47 fu (fX6_readExpr_5 fu 2) v1 v2 g L) (fun (r : Unit) (g1 : Nat → Nat → Int32) (L1 : Nat → Nat → Int64) => zI XT g1 ∧ pJ g1 ∧ g1 2 2 = g0 2 2 ∧ g1 0 13 = g0 0 13) := by
        intro v1 v2 g L hb_v1 hb_v2 hI hJ k0_0 k0_1
        unfold fX6_readNot_5_p47
        refine Ex.cb (sX6_readTest_5_L3 fu hfu v1 g L hI hJ (by omega)) (fun x7 g8 L9 hq11 => ?_)
        obtain ⟨hI, hJ, kk0, kk1⟩ := hq11
        have hI : zI XT g8 := hI
        have hJ : pJ g8 := hJ
        have k0_0 : g8 2 2 = g0 2 2 := kk0.trans k0_0
        have k0_1 : g8 0 13 = g0 0 13 := kk1.trans k0_1
        have lp54 : ∀ (v2 : Int32) (v3 : Int32) (g : Nat → Nat → Int32) (L : Nat → Nat → Int64), (0 ≤ (Int32.toInt v2) ∧ (Int32.toInt v2) ≤ 6) → (0 ≤ (Int32.toInt v3) ∧ (Int32.toInt v3) ≤ 6) → zI XT g → pJ g → g 2 2 = g0 2 2 → g 0 13 = g0 0 13 → Ex (fX6_readNot_5_l54 fu (fX6_readExpr_5 fu 2) v2 v3 g L) (fun (r : Unit) (g1 : Nat → Nat → Int32) (L1 : Nat → Nat → Int64) => zI XT g1 ∧ pJ g1 ∧ g1 2 2 = g0 2 2 ∧ g1 0 13 = g0 0 13) := by
          intro v2 v3 g L hb_v2 hb_v3 hI hJ k0_0 k0_1
          unfold fX6_readNot_5_l54
          refine Ex.loop (fun v => ((0 ≤ (Int32.toInt v2) ∧ (Int32.toInt v2) ≤ 6)) ∧ ((0 ≤ (Int32.toInt (v.1)) ∧ (Int32.toInt (v.1)) ≤ 6)) ∧ (zI XT (v.2.1)) ∧ (pJ (v.2.1)) ∧ ((v.2.1) 2 2 = g0 2 2) ∧ ((v.2.1) 0 13 = g0 0 13)) (fun v => 7 - (Int32.toInt (v.1))) (by omega) (by show 7 - (Int32.toInt v3) < (fu : Int); omega) ⟨hb_v2, hb_v3, hI, hJ, k0_0, k0_1⟩ (fun k54 v hv ih54 => ?_)
          obtain ⟨v3, g, L⟩ := v
          obtain ⟨hb_v2, hb_v3, hI, hJ, k0_0, k0_1⟩ := hv
          have hb_v2 : (0 ≤ (Int32.toInt v2) ∧ (Int32.toInt v2) ≤ 6) := hb_v2
          have hb_v3 : (0 ≤ (Int32.toInt v3) ∧ (Int32.toInt v3) ≤ 6) := hb_v3
          have hI : zI XT g := hI
          have hJ : pJ g := hJ
          have k0_0 : g 2 2 = g0 2 2 := k0_0
          have k0_1 : g 0 13 = g0 0 13 := k0_1
          have ih54 : ∀ v' : Int32 × (Nat → Nat → Int32) × (Nat → Nat → Int64), (((0 ≤ (Int32.toInt v2) ∧ (Int32.toInt v2) ≤ 6)) ∧ ((0 ≤ (Int32.toInt (v'.1)) ∧ (Int32.toInt (v'.1)) ≤ 6)) ∧ (zI XT (v'.2.1)) ∧ (pJ (v'.2.1)) ∧ ((v'.2.1) 2 2 = g0 2 2) ∧ ((v'.2.1) 0 13 = g0 0 13)) → 7 - (Int32.toInt (v'.1)) < 7 - (Int32.toInt v3) → 0 < 7 - (Int32.toInt v3) → Ex (k54 v') (fun (r : Unit) (g1 : Nat → Nat → Int32) (L1 : Nat → Nat → Int64) => zI XT g1 ∧ pJ g1 ∧ g1 2 2 = g0 2 2 ∧ g1 0 13 = g0 0 13) := ih54
          show Ex (fX6_readNot_5_s54 fu (fX6_readExpr_5 fu 2) v2 k54 v3 g L) (fun (r : Unit) (g1 : Nat → Nat → Int32) (L1 : Nat → Nat → Int64) => zI XT g1 ∧ pJ g1 ∧ g1 2 2 = g0 2 2 ∧ g1 0 13 = g0 0 13)
          unfold fX6_readNot_5_s54
          refine Ex.ite (fun c12 => ?_) (fun c12 => ?_)
          ·
            have c12 := icc_le (m := (Int32.toInt v2)) (n := (Int32.toInt v3)) rfl rfl c12
            exact Ex.ret ⟨hI, hJ, k0_0, k0_1⟩
          ·
            have c12 := icc_nle (m := (Int32.toInt v2)) (n := (Int32.toInt v3)) rfl rfl c12
            refine Ex.cb (sX8_add_4 fu hfu (-15) g L hI hJ) (fun x13 g14 L15 hq17 => ?_)
            obtain ⟨hI, hJ, kk0, kk1⟩ := hq17
            have hI : zI XT g14 := hI
            have hJ : pJ g14 := hJ
            have k0_0 : g14 2 2 = g0 2 2 := kk0.trans k0_0
            have k0_1 : g14 0 13 = g0 0 13 := kk1.trans k0_1
            generalize z18q : (v3 + 1) = z18
            have e19 : (Int32.toInt z18) = (Int32.toInt v3) + 1 := by rw [← z18q]; exact ic_addc rfl (by decide) (by omega) (by omega)
            exact ih54 (z18, g14, L15) ⟨(show (0 ≤ (Int32.toInt v2) ∧ (Int32.toInt v2) ≤ 6) from by omega), (show (0 ≤ (Int32.toInt z18) ∧ (Int32.toInt z18) ≤ 6) from by omega), hI, hJ, k0_0, k0_1⟩ (by show 7 - (Int32.toInt z18) < _; omega) (by omega)
        exact lp54 v2 0 g8 L9 (by omega) (by decide) hI hJ k0_0 k0_1
      refine Ex.ite (fun c20 => ?_) (fun c20 => ?_)
      ·
        have c20 := icc_eq (m := (Int32.toInt x1)) (n := 0) rfl (by decide) c20
        exact J47 v1 v2 g2 L3 (by omega) (by omega) hI hJ k0_0 k0_1
      ·
        have c20 := icc_neq (m := (Int32.toInt x1)) (n := 0) rfl (by decide) c20
        refine Ex.ite (fun c21 => ?_) (fun c21 => ?_)
        ·
          have c21 := icc_lt (m := (Int32.toInt v2)) (n := 6) rfl (by decide) c21
          exact J47 v1 v2 g2 L3 (by omega) (by omega) hI hJ k0_0 k0_1
        ·
          have c21 := icc_nlt (m := (Int32.toInt v2)) (n := 6) rfl (by decide) c21
          refine Ex.cb (sX6_refuse_5 fu hfu 2 g2 L3 hI hJ) (fun x22 g23 L24 hq26 => ?_)
          obtain ⟨hI, hJ, kk0, kk1⟩ := hq26
          have hI : zI XT g23 := hI
          have hJ : pJ g23 := hJ
          have k0_0 : g23 2 2 = g0 2 2 := kk0.trans k0_0
          have k0_1 : g23 0 13 = g0 0 13 := kk1.trans k0_1
          exact J47 v1 v2 g23 L24 (by omega) (by omega) hI hJ k0_0 k0_1
    refine Ex.ite (fun c27 => ?_) (fun c27 => ?_)
    ·
      have c27 := icc_le (m := 6) (n := (Int32.toInt v2)) (by decide) rfl c27
      exact J27 v1 v2 g L (by omega) (by omega) hI hJ k0_0 k0_1
    ·
      have c27 := icc_nle (m := 6) (n := (Int32.toInt v2)) (by decide) rfl c27
      refine Ex.cb (sX6_isWord_5_not fu hfu g L hI hJ) (fun x28 g29 L30 hq32 => ?_)
      obtain ⟨hI, hJ, kk0, kk1, rb_⟩ := hq32
      have b33 : 0 ≤ (Int32.toInt x28) ∧ (Int32.toInt x28) ≤ 1 := rb_
      have hI : zI XT g29 := hI
      have hJ : pJ g29 := hJ
      have k0_0 : g29 2 2 = g0 2 2 := kk0.trans k0_0
      have k0_1 : g29 0 13 = g0 0 13 := kk1.trans k0_1
      refine Ex.ite (fun c34 => ?_) (fun c34 => ?_)
      ·
        have c34 := icc_eq (m := (Int32.toInt x28)) (n := 0) rfl (by decide) c34
        exact J27 v1 v2 g29 L30 (by omega) (by omega) hI hJ k0_0 k0_1
      ·
        have c34 := icc_neq (m := (Int32.toInt x28)) (n := 0) rfl (by decide) c34
        generalize z35q : (v2 + 1) = z35
        have e36 : (Int32.toInt z35) = (Int32.toInt v2) + 1 := by rw [← z35q]; exact ic_addc rfl (by decide) (by omega) (by omega)
        refine Ex.cb (sX6_advance_5 fu hfu g29 L30 hI hJ) (fun x37 g38 L39 hq41 => ?_)
        obtain ⟨hI, hJ, kk0, kk1⟩ := hq41
        have hI : zI XT g38 := hI
        have hJ : pJ g38 := hJ
        have k0_0 : g38 2 2 = g0 2 2 := kk0.trans k0_0
        have k0_1 : g38 0 13 = g0 0 13 := kk1.trans k0_1
        exact ih2 (z35, g38, L39) ⟨(show (4 ≤ (Int32.toInt v1) ∧ (Int32.toInt v1) ≤ 4) from by omega), (show (0 ≤ (Int32.toInt z35) ∧ (Int32.toInt z35) ≤ 6) from by omega), hI, hJ, k0_0, k0_1⟩ (by show 7 - (Int32.toInt z35) < _; omega) (by omega)
  exact lp2 p1 0 g0 L0 (by omega) (by decide) hI hJ k0_0 k0_1
set_option maxHeartbeats 4000000 in
set_option maxRecDepth 100000 in
theorem sX6_readAnd_5_L3 (fu : Nat) (hfu : 1180591620717411303424 ≤ fu) (p1 : Int32) (g0 : Nat → Nat → Int32) (L0 : Nat → Nat → Int64) (hI : zI XT g0) (hJ : pJ g0) (hp1 : (4 ≤ (Int32.toInt p1) ∧ (Int32.toInt p1) ≤ 4)) : Ex (fX6_readAnd_5 fu (fX6_readExpr_5 fu 2) p1 g0 L0) (fun (r : Unit) (g1 : Nat → Nat → Int32) (L1 : Nat → Nat → Int64) => zI XT g1 ∧ pJ g1 ∧ g1 2 2 = g0 2 2 ∧ g1 0 13 = g0 0 13) := by
  have k0_0 : g0 2 2 = g0 2 2 := rfl
  have k0_1 : g0 0 13 = g0 0 13 := rfl
  unfold fX6_readAnd_5
  refine Ex.cb (sX6_readNot_5_L3 fu hfu p1 g0 L0 hI hJ (by omega)) (fun x1 g2 L3 hq5 => ?_)
  obtain ⟨hI, hJ, kk0, kk1⟩ := hq5
  have hI : zI XT g2 := hI
  have hJ : pJ g2 := hJ
  have k0_0 : g2 2 2 = g0 2 2 := kk0.trans k0_0
  have k0_1 : g2 0 13 = g0 0 13 := kk1.trans k0_1
  have lp7 : ∀ (v1 : Int32) (v2 : Int32) (g : Nat → Nat → Int32) (L : Nat → Nat → Int64), (4 ≤ (Int32.toInt v1) ∧ (Int32.toInt v1) ≤ 4) → (0 ≤ (Int32.toInt v2) ∧ (Int32.toInt v2) ≤ 700) → zI XT g → pJ g → g 2 2 = g0 2 2 → g 0 13 = g0 0 13 → Ex (fX6_readAnd_5_l7 fu (fX6_readExpr_5 fu 2) v1 v2 g L) (fun (r : Unit) (g1 : Nat → Nat → Int32) (L1 : Nat → Nat → Int64) => zI XT g1 ∧ pJ g1 ∧ g1 2 2 = g0 2 2 ∧ g1 0 13 = g0 0 13) := by
    intro v1 v2 g L hb_v1 hb_v2 hI hJ k0_0 k0_1
    unfold fX6_readAnd_5_l7
    refine Ex.loop (fun v => ((4 ≤ (Int32.toInt v1) ∧ (Int32.toInt v1) ≤ 4)) ∧ ((0 ≤ (Int32.toInt (v.1)) ∧ (Int32.toInt (v.1)) ≤ 700)) ∧ (zI XT (v.2.1)) ∧ (pJ (v.2.1)) ∧ ((v.2.1) 2 2 = g0 2 2) ∧ ((v.2.1) 0 13 = g0 0 13)) (fun v => 701 - (Int32.toInt (v.1))) (by omega) (by show 701 - (Int32.toInt v2) < (fu : Int); omega) ⟨hb_v1, hb_v2, hI, hJ, k0_0, k0_1⟩ (fun k7 v hv ih7 => ?_)
    obtain ⟨v2, g, L⟩ := v
    obtain ⟨hb_v1, hb_v2, hI, hJ, k0_0, k0_1⟩ := hv
    have hb_v1 : (4 ≤ (Int32.toInt v1) ∧ (Int32.toInt v1) ≤ 4) := hb_v1
    have hb_v2 : (0 ≤ (Int32.toInt v2) ∧ (Int32.toInt v2) ≤ 700) := hb_v2
    have hI : zI XT g := hI
    have hJ : pJ g := hJ
    have k0_0 : g 2 2 = g0 2 2 := k0_0
    have k0_1 : g 0 13 = g0 0 13 := k0_1
    have ih7 : ∀ v' : Int32 × (Nat → Nat → Int32) × (Nat → Nat → Int64), (((4 ≤ (Int32.toInt v1) ∧ (Int32.toInt v1) ≤ 4)) ∧ ((0 ≤ (Int32.toInt (v'.1)) ∧ (Int32.toInt (v'.1)) ≤ 700)) ∧ (zI XT (v'.2.1)) ∧ (pJ (v'.2.1)) ∧ ((v'.2.1) 2 2 = g0 2 2) ∧ ((v'.2.1) 0 13 = g0 0 13)) → 701 - (Int32.toInt (v'.1)) < 701 - (Int32.toInt v2) → 0 < 701 - (Int32.toInt v2) → Ex (k7 v') (fun (r : Unit) (g1 : Nat → Nat → Int32) (L1 : Nat → Nat → Int64) => zI XT g1 ∧ pJ g1 ∧ g1 2 2 = g0 2 2 ∧ g1 0 13 = g0 0 13) := ih7
    show Ex (fX6_readAnd_5_s7 fu (fX6_readExpr_5 fu 2) v1 k7 v2 g L) (fun (r : Unit) (g1 : Nat → Nat → Int32) (L1 : Nat → Nat → Int64) => zI XT g1 ∧ pJ g1 ∧ g1 2 2 = g0 2 2 ∧ g1 0 13 = g0 0 13)
    unfold fX6_readAnd_5_s7
    have J50 : ∀ (g : Nat → Nat → Int32) (L : Nat → Nat → Int64), zI XT g → pJ g → g 2 2 = g0 2 2 → g 0 13 = g0 0 13 → Ex (fX6_readAnd_5_p50 fu (fX6_readExpr_5 fu 2) g L) (fun (r : Unit) (g1 : Nat → Nat → Int32) (L1 : Nat → Nat → Int64) => zI XT g1 ∧ pJ g1 ∧ g1 2 2 = g0 2 2 ∧ g1 0 13 = g0 0 13) := by
      intro g L hI hJ k0_0 k0_1
      unfold fX6_readAnd_5_p50
      exact Ex.ret ⟨hI, hJ, k0_0, k0_1⟩
    refine Ex.ite (fun c6 => ?_) (fun c6 => ?_)
    ·
      have c6 := icc_le (m := 700) (n := (Int32.toInt v2)) (by decide) rfl c6
      exact J50 g L hI hJ k0_0 k0_1
    ·
      have c6 := icc_nle (m := 700) (n := (Int32.toInt v2)) (by decide) rfl c6
      refine Ex.cb (sX6_isWord_5_and fu hfu g L hI hJ) (fun x7 g8 L9 hq11 => ?_)
      obtain ⟨hI, hJ, kk0, kk1, rb_⟩ := hq11
      have b12 : 0 ≤ (Int32.toInt x7) ∧ (Int32.toInt x7) ≤ 1 := rb_
      have hI : zI XT g8 := hI
      have hJ : pJ g8 := hJ
      have k0_0 : g8 2 2 = g0 2 2 := kk0.trans k0_0
      have k0_1 : g8 0 13 = g0 0 13 := kk1.trans k0_1
      refine Ex.ite (fun c13 => ?_) (fun c13 => ?_)
      ·
        have c13 := icc_eq (m := (Int32.toInt x7)) (n := 0) rfl (by decide) c13
        exact J50 g8 L9 hI hJ k0_0 k0_1
      ·
        have c13 := icc_neq (m := (Int32.toInt x7)) (n := 0) rfl (by decide) c13
        refine Ex.cb (sX6_advance_5 fu hfu g8 L9 hI hJ) (fun x14 g15 L16 hq18 => ?_)
        obtain ⟨hI, hJ, kk0, kk1⟩ := hq18
        have hI : zI XT g15 := hI
        have hJ : pJ g15 := hJ
        have k0_0 : g15 2 2 = g0 2 2 := kk0.trans k0_0
        have k0_1 : g15 0 13 = g0 0 13 := kk1.trans k0_1
        refine Ex.cb (sX6_readNot_5_L3 fu hfu v1 g15 L16 hI hJ (by omega)) (fun x19 g20 L21 hq23 => ?_)
        obtain ⟨hI, hJ, kk0, kk1⟩ := hq23
        have hI : zI XT g20 := hI
        have hJ : pJ g20 := hJ
        have k0_0 : g20 2 2 = g0 2 2 := kk0.trans k0_0
        have k0_1 : g20 0 13 = g0 0 13 := kk1.trans k0_1
        refine Ex.cb (sX8_add_4 fu hfu (-13) g20 L21 hI hJ) (fun x24 g25 L26 hq28 => ?_)
        obtain ⟨hI, hJ, kk0, kk1⟩ := hq28
        have hI : zI XT g25 := hI
        have hJ : pJ g25 := hJ
        have k0_0 : g25 2 2 = g0 2 2 := kk0.trans k0_0
        have k0_1 : g25 0 13 = g0 0 13 := kk1.trans k0_1
        generalize z29q : (v2 + 1) = z29
        have e30 : (Int32.toInt z29) = (Int32.toInt v2) + 1 := by rw [← z29q]; exact ic_addc rfl (by decide) (by omega) (by omega)
        exact ih7 (z29, g25, L26) ⟨(show (4 ≤ (Int32.toInt v1) ∧ (Int32.toInt v1) ≤ 4) from by omega), (show (0 ≤ (Int32.toInt z29) ∧ (Int32.toInt z29) ≤ 700) from by omega), hI, hJ, k0_0, k0_1⟩ (by show 701 - (Int32.toInt z29) < _; omega) (by omega)
  exact lp7 p1 0 g2 L3 (by omega) (by decide) hI hJ k0_0 k0_1
set_option maxHeartbeats 4000000 in
set_option maxRecDepth 100000 in
theorem sX6_readExpr_5_L3 (fu : Nat) (hfu : 1180591620717411303424 ≤ fu) (p1 : Int32) (g0 : Nat → Nat → Int32) (L0 : Nat → Nat → Int64) (hI : zI XT g0) (hJ : pJ g0) (hp1 : (4 ≤ (Int32.toInt p1) ∧ (Int32.toInt p1) ≤ 4)) : Ex (fX6_readExpr_5 fu 3 p1 g0 L0) (fun (r : Unit) (g1 : Nat → Nat → Int32) (L1 : Nat → Nat → Int64) => zI XT g1 ∧ pJ g1 ∧ g1 2 2 = g0 2 2 ∧ g1 0 13 = g0 0 13) := by
  have k0_0 : g0 2 2 = g0 2 2 := rfl
  have k0_1 : g0 0 13 = g0 0 13 := rfl
  rw [fX6_readExpr_5_succ]
  unfold fX6_readExpr_5B
  have J35 : ∀ (v1 : Int32) (g : Nat → Nat → Int32) (L : Nat → Nat → Int64), (4 ≤ (Int32.toInt v1) ∧ (Int32.toInt v1) ≤ 4) → zI XT g → pJ g → g 2 2 = g0 2 2 → g 0 13 = g0 0 13 → Ex (fX6_readExpr_5_p35 fu (fX6_readExpr_5 fu 2) v1 g L) (fun (r : Unit) (g1 : Nat → Nat → Int32) (L1 : Nat → Nat → Int64) => zI XT g1 ∧ pJ g1 ∧ g1 2 2 = g0 2 2 ∧ g1 0 13 = g0 0 13) := by
    intro v1 g L hb_v1 hI hJ k0_0 k0_1
    unfold fX6_readExpr_5_p35
    refine Ex.cb (sX6_readAnd_5_L3 fu hfu v1 g L hI hJ (by omega)) (fun x1 g2 L3 hq5 => ?_)
    obtain ⟨hI, hJ, kk0, kk1⟩ := hq5
    have hI : zI XT g2 := hI
    have hJ : pJ g2 := hJ
    have k0_0 : g2 2 2 = g0 2 2 := kk0.trans k0_0
    have k0_1 : g2 0 13 = g0 0 13 := kk1.trans k0_1
    have lp42 : ∀ (v1 : Int32) (v2 : Int32) (g : Nat → Nat → Int32) (L : Nat → Nat → Int64), (4 ≤ (Int32.toInt v1) ∧ (Int32.toInt v1) ≤ 4) → (0 ≤ (Int32.toInt v2) ∧ (Int32.toInt v2) ≤ 700) → zI XT g → pJ g → g 2 2 = g0 2 2 → g 0 13 = g0 0 13 → Ex (fX6_readExpr_5_l42 fu (fX6_readExpr_5 fu 2) v1 v2 g L) (fun (r : Unit) (g1 : Nat → Nat → Int32) (L1 : Nat → Nat → Int64) => zI XT g1 ∧ pJ g1 ∧ g1 2 2 = g0 2 2 ∧ g1 0 13 = g0 0 13) := by
      intro v1 v2 g L hb_v1 hb_v2 hI hJ k0_0 k0_1
      unfold fX6_readExpr_5_l42
      refine Ex.loop (fun v => ((4 ≤ (Int32.toInt v1) ∧ (Int32.toInt v1) ≤ 4)) ∧ ((0 ≤ (Int32.toInt (v.1)) ∧ (Int32.toInt (v.1)) ≤ 700)) ∧ (zI XT (v.2.1)) ∧ (pJ (v.2.1)) ∧ ((v.2.1) 2 2 = g0 2 2) ∧ ((v.2.1) 0 13 = g0 0 13)) (fun v => 701 - (Int32.toInt (v.1))) (by omega) (by show 701 - (Int32.toInt v2) < (fu : Int); omega) ⟨hb_v1, hb_v2, hI, hJ, k0_0, k0_1⟩ (fun k42 v hv ih42 => ?_)
      obtain ⟨v2, g, L⟩ := v
      obtain ⟨hb_v1, hb_v2, hI, hJ, k0_0, k0_1⟩ := hv
      have hb_v1 : (4 ≤ (Int32.toInt v1) ∧ (Int32.toInt v1) ≤ 4) := hb_v1
      have hb_v2 : (0 ≤ (Int32.toInt v2) ∧ (Int32.toInt v2) ≤ 700) := hb_v2
      have hI : zI XT g := hI
      have hJ : pJ g := hJ
      have k0_0 : g 2 2 = g0 2 2 := k0_0
      have k0_1 : g 0 13 = g0 0 13 := k0_1
      have ih42 : ∀ v' : Int32 × (Nat → Nat → Int32) × (Nat → Nat → Int64), (((4 ≤ (Int32.toInt v1) ∧ (Int32.toInt v1) ≤ 4)) ∧ ((0 ≤ (Int32.toInt (v'.1)) ∧ (Int32.toInt (v'.1)) ≤ 700)) ∧ (zI XT (v'.2.1)) ∧ (pJ (v'.2.1)) ∧ ((v'.2.1) 2 2 = g0 2 2) ∧ ((v'.2.1) 0 13 = g0 0 13)) → 701 - (Int32.toInt (v'.1)) < 701 - (Int32.toInt v2) → 0 < 701 - (Int32.toInt v2) → Ex (k42 v') (fun (r : Unit) (g1 : Nat → Nat → Int32) (L1 : Nat → Nat → Int64) => zI XT g1 ∧ pJ g1 ∧ g1 2 2 = g0 2 2 ∧ g1 0 13 = g0 0 13) := ih42
      show Ex (fX6_readExpr_5_s42 fu (fX6_readExpr_5 fu 2) v1 k42 v2 g L) (fun (r : Unit) (g1 : Nat → Nat → Int32) (L1 : Nat → Nat → Int64) => zI XT g1 ∧ pJ g1 ∧ g1 2 2 = g0 2 2 ∧ g1 0 13 = g0 0 13)
      unfold fX6_readExpr_5_s42
      have J85 : ∀ (g : Nat → Nat → Int32) (L : Nat → Nat → Int64), zI XT g → pJ g → g 2 2 = g0 2 2 → g 0 13 = g0 0 13 → Ex (fX6_readExpr_5_p85 fu (fX6_readExpr_5 fu 2) g L) (fun (r : Unit) (g1 : Nat → Nat → Int32) (L1 : Nat → Nat → Int64) => zI XT g1 ∧ pJ g1 ∧ g1 2 2 = g0 2 2 ∧ g1 0 13 = g0 0 13) := by
        intro g L hI hJ k0_0 k0_1
        unfold fX6_readExpr_5_p85
        exact Ex.ret ⟨hI, hJ, k0_0, k0_1⟩
      refine Ex.ite (fun c6 => ?_) (fun c6 => ?_)
      ·
        have c6 := icc_le (m := 700) (n := (Int32.toInt v2)) (by decide) rfl c6
        exact J85 g L hI hJ k0_0 k0_1
      ·
        have c6 := icc_nle (m := 700) (n := (Int32.toInt v2)) (by decide) rfl c6
        refine Ex.cb (sX6_isWord_5_or fu hfu g L hI hJ) (fun x7 g8 L9 hq11 => ?_)
        obtain ⟨hI, hJ, kk0, kk1, rb_⟩ := hq11
        have b12 : 0 ≤ (Int32.toInt x7) ∧ (Int32.toInt x7) ≤ 1 := rb_
        have hI : zI XT g8 := hI
        have hJ : pJ g8 := hJ
        have k0_0 : g8 2 2 = g0 2 2 := kk0.trans k0_0
        have k0_1 : g8 0 13 = g0 0 13 := kk1.trans k0_1
        refine Ex.ite (fun c13 => ?_) (fun c13 => ?_)
        ·
          have c13 := icc_eq (m := (Int32.toInt x7)) (n := 0) rfl (by decide) c13
          exact J85 g8 L9 hI hJ k0_0 k0_1
        ·
          have c13 := icc_neq (m := (Int32.toInt x7)) (n := 0) rfl (by decide) c13
          refine Ex.cb (sX6_advance_5 fu hfu g8 L9 hI hJ) (fun x14 g15 L16 hq18 => ?_)
          obtain ⟨hI, hJ, kk0, kk1⟩ := hq18
          have hI : zI XT g15 := hI
          have hJ : pJ g15 := hJ
          have k0_0 : g15 2 2 = g0 2 2 := kk0.trans k0_0
          have k0_1 : g15 0 13 = g0 0 13 := kk1.trans k0_1
          refine Ex.cb (sX6_readAnd_5_L3 fu hfu v1 g15 L16 hI hJ (by omega)) (fun x19 g20 L21 hq23 => ?_)
          obtain ⟨hI, hJ, kk0, kk1⟩ := hq23
          have hI : zI XT g20 := hI
          have hJ : pJ g20 := hJ
          have k0_0 : g20 2 2 = g0 2 2 := kk0.trans k0_0
          have k0_1 : g20 0 13 = g0 0 13 := kk1.trans k0_1
          refine Ex.cb (sX8_add_4 fu hfu (-14) g20 L21 hI hJ) (fun x24 g25 L26 hq28 => ?_)
          obtain ⟨hI, hJ, kk0, kk1⟩ := hq28
          have hI : zI XT g25 := hI
          have hJ : pJ g25 := hJ
          have k0_0 : g25 2 2 = g0 2 2 := kk0.trans k0_0
          have k0_1 : g25 0 13 = g0 0 13 := kk1.trans k0_1
          generalize z29q : (v2 + 1) = z29
          have e30 : (Int32.toInt z29) = (Int32.toInt v2) + 1 := by rw [← z29q]; exact ic_addc rfl (by decide) (by omega) (by omega)
          exact ih42 (z29, g25, L26) ⟨(show (4 ≤ (Int32.toInt v1) ∧ (Int32.toInt v1) ≤ 4) from by omega), (show (0 ≤ (Int32.toInt z29) ∧ (Int32.toInt z29) ≤ 700) from by omega), hI, hJ, k0_0, k0_1⟩ (by show 701 - (Int32.toInt z29) < _; omega) (by omega)
    exact lp42 v1 0 g2 L3 (by omega) (by decide) hI hJ k0_0 k0_1
  refine Ex.ite (fun c31 => ?_) (fun c31 => ?_)
  ·
    have c31 := icc_le (m := (Int32.toInt p1)) (n := 5) rfl (by decide) c31
    exact J35 p1 g0 L0 (by omega) hI hJ k0_0 k0_1
  ·
    have c31 := icc_nle (m := (Int32.toInt p1)) (n := 5) rfl (by decide) c31
    omega
set_option maxHeartbeats 4000000 in
set_option maxRecDepth 100000 in
theorem sX6_readPart_5_L4 (fu : Nat) (hfu : 1180591620717411303424 ≤ fu) (p1 : Int32) (g0 : Nat → Nat → Int32) (L0 : Nat → Nat → Int64) (hI : zI XT g0) (hJ : pJ g0) (hp1 : (3 ≤ (Int32.toInt p1) ∧ (Int32.toInt p1) ≤ 3)) : Ex (fX6_readPart_5 fu (fX6_readExpr_5 fu 3) p1 g0 L0) (fun (r : Unit) (g1 : Nat → Nat → Int32) (L1 : Nat → Nat → Int64) => zI XT g1 ∧ pJ g1 ∧ g1 2 2 = g0 2 2 ∧ g1 0 13 = g0 0 13) := by
  have k0_0 : g0 2 2 = g0 2 2 := rfl
  have k0_1 : g0 0 13 = g0 0 13 := rfl
  unfold fX6_readPart_5
  have J111 : ∀ (g : Nat → Nat → Int32) (L : Nat → Nat → Int64), zI XT g → pJ g → g 2 2 = g0 2 2 → g 0 13 = g0 0 13 → Ex (fX6_readPart_5_p111 fu (fX6_readExpr_5 fu 3) g L) (fun (r : Unit) (g1 : Nat → Nat → Int32) (L1 : Nat → Nat → Int64) => zI XT g1 ∧ pJ g1 ∧ g1 2 2 = g0 2 2 ∧ g1 0 13 = g0 0 13) := by
    intro g L hI hJ k0_0 k0_1
    unfold fX6_readPart_5_p111
    exact Ex.ret ⟨hI, hJ, k0_0, k0_1⟩
  refine Ex.ite (fun c1 => ?_) (fun c1 => ?_)
  ·
    have c1 := icc_eq (m := (Int32.toInt (g0 5 4))) (n := 1) rfl (by decide) c1
    refine Ex.cb (sX6_readNumber_5 fu hfu 0 9999 g0 L0 hI hJ) (fun x2 g3 L4 hq6 => ?_)
    obtain ⟨hI, hJ, kk0, kk1, rb_⟩ := hq6
    have b7 : 0 ≤ (Int32.toInt x2) ∧ (Int32.toInt x2) ≤ 9999 := rb_
    have hI : zI XT g3 := hI
    have hJ : pJ g3 := hJ
    have k0_0 : g3 2 2 = g0 2 2 := kk0.trans k0_0
    have k0_1 : g3 0 13 = g0 0 13 := kk1.trans k0_1
    refine Ex.cb (sX8_add_4 fu hfu x2 g3 L4 hI hJ) (fun x8 g9 L10 hq12 => ?_)
    obtain ⟨hI, hJ, kk0, kk1⟩ := hq12
    have hI : zI XT g9 := hI
    have hJ : pJ g9 := hJ
    have k0_0 : g9 2 2 = g0 2 2 := kk0.trans k0_0
    have k0_1 : g9 0 13 = g0 0 13 := kk1.trans k0_1
    exact J111 g9 L10 hI hJ k0_0 k0_1
  ·
    have c1 := icc_neq (m := (Int32.toInt (g0 5 4))) (n := 1) rfl (by decide) c1
    refine Ex.ite (fun c13 => ?_) (fun c13 => ?_)
    ·
      have c13 := icc_eq (m := (Int32.toInt (g0 5 4))) (n := 2) rfl (by decide) c13
      refine Ex.cb (sX6_valueNow_5 fu hfu g0 L0 hI hJ) (fun x14 g15 L16 hq18 => ?_)
      obtain ⟨hI, hJ, kk0, kk1, rb_⟩ := hq18
      have b19 : (-1) ≤ (Int32.toInt x14) ∧ (Int32.toInt x14) ≤ 5 := rb_
      have hI : zI XT g15 := hI
      have hJ : pJ g15 := hJ
      have k0_0 : g15 2 2 = g0 2 2 := kk0.trans k0_0
      have k0_1 : g15 0 13 = g0 0 13 := kk1.trans k0_1
      have J52 : ∀ (v2 : Int32) (g : Nat → Nat → Int32) (L : Nat → Nat → Int64), ((-1) ≤ (Int32.toInt v2) ∧ (Int32.toInt v2) ≤ 5) → zI XT g → pJ g → g 2 2 = g0 2 2 → g 0 13 = g0 0 13 → Ex (fX6_readPart_5_p52 fu (fX6_readExpr_5 fu 3) v2 g L) (fun (r : Unit) (g1 : Nat → Nat → Int32) (L1 : Nat → Nat → Int64) => zI XT g1 ∧ pJ g1 ∧ g1 2 2 = g0 2 2 ∧ g1 0 13 = g0 0 13) := by
        intro v2 g L hb_v2 hI hJ k0_0 k0_1
        unfold fX6_readPart_5_p52
        generalize z20q : ((-1) - v2) = z20
        have e21 : (Int32.toInt z20) = (-1) - (Int32.toInt v2) := by rw [← z20q]; exact ic_subc (by decide) rfl (by omega) (by omega)
        refine Ex.cb (sX8_add_4 fu hfu z20 g L hI hJ) (fun x22 g23 L24 hq26 => ?_)
        obtain ⟨hI, hJ, kk0, kk1⟩ := hq26
        have hI : zI XT g23 := hI
        have hJ : pJ g23 := hJ
        have k0_0 : g23 2 2 = g0 2 2 := kk0.trans k0_0
        have k0_1 : g23 0 13 = g0 0 13 := kk1.trans k0_1
        refine Ex.cb (sX6_advance_5 fu hfu g23 L24 hI hJ) (fun x27 g28 L29 hq31 => ?_)
        obtain ⟨hI, hJ, kk0, kk1⟩ := hq31
        have hI : zI XT g28 := hI
        have hJ : pJ g28 := hJ
        have k0_0 : g28 2 2 = g0 2 2 := kk0.trans k0_0
        have k0_1 : g28 0 13 = g0 0 13 := kk1.trans k0_1
        exact J111 g28 L29 hI hJ k0_0 k0_1
      refine Ex.ite (fun c32 => ?_) (fun c32 => ?_)
      ·
        have c32 := icc_eq (m := (Int32.toInt x14)) (n := (-1)) rfl (by decide) c32
        refine Ex.cb (sX6_refuse_5 fu hfu 3 g15 L16 hI hJ) (fun x33 g34 L35 hq37 => ?_)
        obtain ⟨hI, hJ, kk0, kk1⟩ := hq37
        have hI : zI XT g34 := hI
        have hJ : pJ g34 := hJ
        have k0_0 : g34 2 2 = g0 2 2 := kk0.trans k0_0
        have k0_1 : g34 0 13 = g0 0 13 := kk1.trans k0_1
        exact J52 x14 g34 L35 (by omega) hI hJ k0_0 k0_1
      ·
        have c32 := icc_neq (m := (Int32.toInt x14)) (n := (-1)) rfl (by decide) c32
        exact J52 x14 g15 L16 (by omega) hI hJ k0_0 k0_1
    ·
      have c13 := icc_neq (m := (Int32.toInt (g0 5 4))) (n := 2) rfl (by decide) c13
      refine Ex.cb (sX6_isSignNow_5 fu hfu 40 g0 L0 hI hJ) (fun x38 g39 L40 hq42 => ?_)
      obtain ⟨hI, hJ, kk0, kk1, rb_⟩ := hq42
      have b43 : 0 ≤ (Int32.toInt x38) ∧ (Int32.toInt x38) ≤ 1 := rb_
      have hI : zI XT g39 := hI
      have hJ : pJ g39 := hJ
      have k0_0 : g39 2 2 = g0 2 2 := kk0.trans k0_0
      have k0_1 : g39 0 13 = g0 0 13 := kk1.trans k0_1
      have J106 : ∀ (g : Nat → Nat → Int32) (L : Nat → Nat → Int64), zI XT g → pJ g → g 2 2 = g0 2 2 → g 0 13 = g0 0 13 → Ex (fX6_readPart_5_p106 fu (fX6_readExpr_5 fu 3) g L) (fun (r : Unit) (g1 : Nat → Nat → Int32) (L1 : Nat → Nat → Int64) => zI XT g1 ∧ pJ g1 ∧ g1 2 2 = g0 2 2 ∧ g1 0 13 = g0 0 13) := by
        intro g L hI hJ k0_0 k0_1
        unfold fX6_readPart_5_p106
        refine Ex.cb (sX6_refuse_5 fu hfu 1 g L hI hJ) (fun x44 g45 L46 hq48 => ?_)
        obtain ⟨hI, hJ, kk0, kk1⟩ := hq48
        have hI : zI XT g45 := hI
        have hJ : pJ g45 := hJ
        have k0_0 : g45 2 2 = g0 2 2 := kk0.trans k0_0
        have k0_1 : g45 0 13 = g0 0 13 := kk1.trans k0_1
        exact J111 g45 L46 hI hJ k0_0 k0_1
      refine Ex.ite (fun c49 => ?_) (fun c49 => ?_)
      ·
        have c49 := icc_eq (m := (Int32.toInt x38)) (n := 0) rfl (by decide) c49
        exact J106 g39 L40 hI hJ k0_0 k0_1
      ·
        have c49 := icc_neq (m := (Int32.toInt x38)) (n := 0) rfl (by decide) c49
        refine Ex.ite (fun c50 => ?_) (fun c50 => ?_)
        ·
          have c50 := icc_lt (m := 5) (n := (Int32.toInt p1)) (by decide) rfl c50
          omega
        ·
          have c50 := icc_nlt (m := 5) (n := (Int32.toInt p1)) (by decide) rfl c50
          refine Ex.cb (sX6_advance_5 fu hfu g39 L40 hI hJ) (fun x51 g52 L53 hq55 => ?_)
          obtain ⟨hI, hJ, kk0, kk1⟩ := hq55
          have hI : zI XT g52 := hI
          have hJ : pJ g52 := hJ
          have k0_0 : g52 2 2 = g0 2 2 := kk0.trans k0_0
          have k0_1 : g52 0 13 = g0 0 13 := kk1.trans k0_1
          generalize z56q : (p1 + 1) = z56
          have e57 : (Int32.toInt z56) = (Int32.toInt p1) + 1 := by rw [← z56q]; exact ic_addc rfl (by decide) (by omega) (by omega)
          refine Ex.cb (sX6_readExpr_5_L3 fu hfu z56 g52 L53 hI hJ (by omega)) (fun x58 g59 L60 hq62 => ?_)
          obtain ⟨hI, hJ, kk0, kk1⟩ := hq62
          have hI : zI XT g59 := hI
          have hJ : pJ g59 := hJ
          have k0_0 : g59 2 2 = g0 2 2 := kk0.trans k0_0
          have k0_1 : g59 0 13 = g0 0 13 := kk1.trans k0_1
          refine Ex.cb (sX6_readSign_5 fu hfu 41 g59 L60 hI hJ) (fun x63 g64 L65 hq67 => ?_)
          obtain ⟨hI, hJ, kk0, kk1⟩ := hq67
          have hI : zI XT g64 := hI
          have hJ : pJ g64 := hJ
          have k0_0 : g64 2 2 = g0 2 2 := kk0.trans k0_0
          have k0_1 : g64 0 13 = g0 0 13 := kk1.trans k0_1
          exact J111 g64 L65 hI hJ k0_0 k0_1
set_option maxHeartbeats 4000000 in
set_option maxRecDepth 100000 in
theorem sX6_readProduct_5_L4 (fu : Nat) (hfu : 1180591620717411303424 ≤ fu) (p1 : Int32) (g0 : Nat → Nat → Int32) (L0 : Nat → Nat → Int64) (hI : zI XT g0) (hJ : pJ g0) (hp1 : (3 ≤ (Int32.toInt p1) ∧ (Int32.toInt p1) ≤ 3)) : Ex (fX6_readProduct_5 fu (fX6_readExpr_5 fu 3) p1 g0 L0) (fun (r : Unit) (g1 : Nat → Nat → Int32) (L1 : Nat → Nat → Int64) => zI XT g1 ∧ pJ g1 ∧ g1 2 2 = g0 2 2 ∧ g1 0 13 = g0 0 13) := by
  have k0_0 : g0 2 2 = g0 2 2 := rfl
  have k0_1 : g0 0 13 = g0 0 13 := rfl
  unfold fX6_readProduct_5
  refine Ex.cb (sX6_readPart_5_L4 fu hfu p1 g0 L0 hI hJ (by omega)) (fun x1 g2 L3 hq5 => ?_)
  obtain ⟨hI, hJ, kk0, kk1⟩ := hq5
  have hI : zI XT g2 := hI
  have hJ : pJ g2 := hJ
  have k0_0 : g2 2 2 = g0 2 2 := kk0.trans k0_0
  have k0_1 : g2 0 13 = g0 0 13 := kk1.trans k0_1
  have lp7 : ∀ (v1 : Int32) (v2 : Int32) (g : Nat → Nat → Int32) (L : Nat → Nat → Int64), (3 ≤ (Int32.toInt v1) ∧ (Int32.toInt v1) ≤ 3) → (0 ≤ (Int32.toInt v2) ∧ (Int32.toInt v2) ≤ 700) → zI XT g → pJ g → g 2 2 = g0 2 2 → g 0 13 = g0 0 13 → Ex (fX6_readProduct_5_l7 fu (fX6_readExpr_5 fu 3) v1 v2 g L) (fun (r : Unit) (g1 : Nat → Nat → Int32) (L1 : Nat → Nat → Int64) => zI XT g1 ∧ pJ g1 ∧ g1 2 2 = g0 2 2 ∧ g1 0 13 = g0 0 13) := by
    intro v1 v2 g L hb_v1 hb_v2 hI hJ k0_0 k0_1
    unfold fX6_readProduct_5_l7
    refine Ex.loop (fun v => ((3 ≤ (Int32.toInt v1) ∧ (Int32.toInt v1) ≤ 3)) ∧ ((0 ≤ (Int32.toInt (v.1)) ∧ (Int32.toInt (v.1)) ≤ 700)) ∧ (zI XT (v.2.1)) ∧ (pJ (v.2.1)) ∧ ((v.2.1) 2 2 = g0 2 2) ∧ ((v.2.1) 0 13 = g0 0 13)) (fun v => 701 - (Int32.toInt (v.1))) (by omega) (by show 701 - (Int32.toInt v2) < (fu : Int); omega) ⟨hb_v1, hb_v2, hI, hJ, k0_0, k0_1⟩ (fun k7 v hv ih7 => ?_)
    obtain ⟨v2, g, L⟩ := v
    obtain ⟨hb_v1, hb_v2, hI, hJ, k0_0, k0_1⟩ := hv
    have hb_v1 : (3 ≤ (Int32.toInt v1) ∧ (Int32.toInt v1) ≤ 3) := hb_v1
    have hb_v2 : (0 ≤ (Int32.toInt v2) ∧ (Int32.toInt v2) ≤ 700) := hb_v2
    have hI : zI XT g := hI
    have hJ : pJ g := hJ
    have k0_0 : g 2 2 = g0 2 2 := k0_0
    have k0_1 : g 0 13 = g0 0 13 := k0_1
    have ih7 : ∀ v' : Int32 × (Nat → Nat → Int32) × (Nat → Nat → Int64), (((3 ≤ (Int32.toInt v1) ∧ (Int32.toInt v1) ≤ 3)) ∧ ((0 ≤ (Int32.toInt (v'.1)) ∧ (Int32.toInt (v'.1)) ≤ 700)) ∧ (zI XT (v'.2.1)) ∧ (pJ (v'.2.1)) ∧ ((v'.2.1) 2 2 = g0 2 2) ∧ ((v'.2.1) 0 13 = g0 0 13)) → 701 - (Int32.toInt (v'.1)) < 701 - (Int32.toInt v2) → 0 < 701 - (Int32.toInt v2) → Ex (k7 v') (fun (r : Unit) (g1 : Nat → Nat → Int32) (L1 : Nat → Nat → Int64) => zI XT g1 ∧ pJ g1 ∧ g1 2 2 = g0 2 2 ∧ g1 0 13 = g0 0 13) := ih7
    show Ex (fX6_readProduct_5_s7 fu (fX6_readExpr_5 fu 3) v1 k7 v2 g L) (fun (r : Unit) (g1 : Nat → Nat → Int32) (L1 : Nat → Nat → Int64) => zI XT g1 ∧ pJ g1 ∧ g1 2 2 = g0 2 2 ∧ g1 0 13 = g0 0 13)
    unfold fX6_readProduct_5_s7
    have J75 : ∀ (g : Nat → Nat → Int32) (L : Nat → Nat → Int64), zI XT g → pJ g → g 2 2 = g0 2 2 → g 0 13 = g0 0 13 → Ex (fX6_readProduct_5_p75 fu (fX6_readExpr_5 fu 3) g L) (fun (r : Unit) (g1 : Nat → Nat → Int32) (L1 : Nat → Nat → Int64) => zI XT g1 ∧ pJ g1 ∧ g1 2 2 = g0 2 2 ∧ g1 0 13 = g0 0 13) := by
      intro g L hI hJ k0_0 k0_1
      unfold fX6_readProduct_5_p75
      exact Ex.ret ⟨hI, hJ, k0_0, k0_1⟩
    refine Ex.ite (fun c6 => ?_) (fun c6 => ?_)
    ·
      have c6 := icc_le (m := 700) (n := (Int32.toInt v2)) (by decide) rfl c6
      exact J75 g L hI hJ k0_0 k0_1
    ·
      have c6 := icc_nle (m := 700) (n := (Int32.toInt v2)) (by decide) rfl c6
      refine Ex.cb (sX6_isSignNow_5 fu hfu 42 g L hI hJ) (fun x7 g8 L9 hq11 => ?_)
      obtain ⟨hI, hJ, kk0, kk1, rb_⟩ := hq11
      have b12 : 0 ≤ (Int32.toInt x7) ∧ (Int32.toInt x7) ≤ 1 := rb_
      have hI : zI XT g8 := hI
      have hJ : pJ g8 := hJ
      have k0_0 : g8 2 2 = g0 2 2 := kk0.trans k0_0
      have k0_1 : g8 0 13 = g0 0 13 := kk1.trans k0_1
      have J32 : ∀ (g : Nat → Nat → Int32) (L : Nat → Nat → Int64), (3 ≤ (Int32.toInt v1) ∧ (Int32.toInt v1) ≤ 3) → (0 ≤ (Int32.toInt v2) ∧ (Int32.toInt v2) ≤ 699) → zI XT g → pJ g → g 2 2 = g0 2 2 → g 0 13 = g0 0 13 → Ex (fX6_readProduct_5_p32 fu (fX6_readExpr_5 fu 3) k7 v1 v2 g L) (fun (r : Unit) (g1 : Nat → Nat → Int32) (L1 : Nat → Nat → Int64) => zI XT g1 ∧ pJ g1 ∧ g1 2 2 = g0 2 2 ∧ g1 0 13 = g0 0 13) := by
        intro g L hb_v1 hb_v2 hI hJ k0_0 k0_1
        unfold fX6_readProduct_5_p32
        refine Ex.cb (sX6_isSignNow_5 fu hfu 42 g L hI hJ) (fun x13 g14 L15 hq17 => ?_)
        obtain ⟨hI, hJ, kk0, kk1, rb_⟩ := hq17
        have b18 : 0 ≤ (Int32.toInt x13) ∧ (Int32.toInt x13) ≤ 1 := rb_
        have hI : zI XT g14 := hI
        have hJ : pJ g14 := hJ
        have k0_0 : g14 2 2 = g0 2 2 := kk0.trans k0_0
        have k0_1 : g14 0 13 = g0 0 13 := kk1.trans k0_1
        have J48 : ∀ (t0 : Int32) (g : Nat → Nat → Int32) (L : Nat → Nat → Int64), (3 ≤ (Int32.toInt v1) ∧ (Int32.toInt v1) ≤ 3) → (0 ≤ (Int32.toInt v2) ∧ (Int32.toInt v2) ≤ 699) → ((-10) ≤ (Int32.toInt t0) ∧ (Int32.toInt t0) ≤ (-9)) → zI XT g → pJ g → g 2 2 = g0 2 2 → g 0 13 = g0 0 13 → Ex (fX6_readProduct_5_p48 fu (fX6_readExpr_5 fu 3) k7 v1 v2 t0 g L) (fun (r : Unit) (g1 : Nat → Nat → Int32) (L1 : Nat → Nat → Int64) => zI XT g1 ∧ pJ g1 ∧ g1 2 2 = g0 2 2 ∧ g1 0 13 = g0 0 13) := by
          intro t0 g L hb_v1 hb_v2 hb_t0 hI hJ k0_0 k0_1
          unfold fX6_readProduct_5_p48
          refine Ex.cb (sX6_advance_5 fu hfu g L hI hJ) (fun x19 g20 L21 hq23 => ?_)
          obtain ⟨hI, hJ, kk0, kk1⟩ := hq23
          have hI : zI XT g20 := hI
          have hJ : pJ g20 := hJ
          have k0_0 : g20 2 2 = g0 2 2 := kk0.trans k0_0
          have k0_1 : g20 0 13 = g0 0 13 := kk1.trans k0_1
          refine Ex.cb (sX6_readPart_5_L4 fu hfu v1 g20 L21 hI hJ (by omega)) (fun x24 g25 L26 hq28 => ?_)
          obtain ⟨hI, hJ, kk0, kk1⟩ := hq28
          have hI : zI XT g25 := hI
          have hJ : pJ g25 := hJ
          have k0_0 : g25 2 2 = g0 2 2 := kk0.trans k0_0
          have k0_1 : g25 0 13 = g0 0 13 := kk1.trans k0_1
          refine Ex.cb (sX8_add_4 fu hfu t0 g25 L26 hI hJ) (fun x29 g30 L31 hq33 => ?_)
          obtain ⟨hI, hJ, kk0, kk1⟩ := hq33
          have hI : zI XT g30 := hI
          have hJ : pJ g30 := hJ
          have k0_0 : g30 2 2 = g0 2 2 := kk0.trans k0_0
          have k0_1 : g30 0 13 = g0 0 13 := kk1.trans k0_1
          generalize z34q : (v2 + 1) = z34
          have e35 : (Int32.toInt z34) = (Int32.toInt v2) + 1 := by rw [← z34q]; exact ic_addc rfl (by decide) (by omega) (by omega)
          exact ih7 (z34, g30, L31) ⟨(show (3 ≤ (Int32.toInt v1) ∧ (Int32.toInt v1) ≤ 3) from by omega), (show (0 ≤ (Int32.toInt z34) ∧ (Int32.toInt z34) ≤ 700) from by omega), hI, hJ, k0_0, k0_1⟩ (by show 701 - (Int32.toInt z34) < _; omega) (by omega)
        refine Ex.ite (fun c36 => ?_) (fun c36 => ?_)
        ·
          have c36 := icc_eq (m := (Int32.toInt x13)) (n := 0) rfl (by decide) c36
          exact J48 (-10) g14 L15 (by omega) (by omega) (by decide) hI hJ k0_0 k0_1
        ·
          have c36 := icc_neq (m := (Int32.toInt x13)) (n := 0) rfl (by decide) c36
          exact J48 (-9) g14 L15 (by omega) (by omega) (by decide) hI hJ k0_0 k0_1
      refine Ex.ite (fun c37 => ?_) (fun c37 => ?_)
      ·
        have c37 := icc_eq (m := (Int32.toInt x7)) (n := 0) rfl (by decide) c37
        refine Ex.cb (sX6_isSignNow_5 fu hfu 47 g8 L9 hI hJ) (fun x38 g39 L40 hq42 => ?_)
        obtain ⟨hI, hJ, kk0, kk1, rb_⟩ := hq42
        have b43 : 0 ≤ (Int32.toInt x38) ∧ (Int32.toInt x38) ≤ 1 := rb_
        have hI : zI XT g39 := hI
        have hJ : pJ g39 := hJ
        have k0_0 : g39 2 2 = g0 2 2 := kk0.trans k0_0
        have k0_1 : g39 0 13 = g0 0 13 := kk1.trans k0_1
        refine Ex.ite (fun c44 => ?_) (fun c44 => ?_)
        ·
          have c44 := icc_eq (m := (Int32.toInt x38)) (n := 0) rfl (by decide) c44
          exact J75 g39 L40 hI hJ k0_0 k0_1
        ·
          have c44 := icc_neq (m := (Int32.toInt x38)) (n := 0) rfl (by decide) c44
          exact J32 g39 L40 (by omega) (by omega) hI hJ k0_0 k0_1
      ·
        have c37 := icc_neq (m := (Int32.toInt x7)) (n := 0) rfl (by decide) c37
        exact J32 g8 L9 (by omega) (by omega) hI hJ k0_0 k0_1
  exact lp7 p1 0 g2 L3 (by omega) (by decide) hI hJ k0_0 k0_1
set_option maxHeartbeats 4000000 in
set_option maxRecDepth 100000 in
theorem sX6_readSum_5_L4 (fu : Nat) (hfu : 1180591620717411303424 ≤ fu) (p1 : Int32) (g0 : Nat → Nat → Int32) (L0 : Nat → Nat → Int64) (hI : zI XT g0) (hJ : pJ g0) (hp1 : (3 ≤ (Int32.toInt p1) ∧ (Int32.toInt p1) ≤ 3)) : Ex (fX6_readSum_5 fu (fX6_readExpr_5 fu 3) p1 g0 L0) (fun (r : Unit) (g1 : Nat → Nat → Int32) (L1 : Nat → Nat → Int64) => zI XT g1 ∧ pJ g1 ∧ g1 2 2 = g0 2 2 ∧ g1 0 13 = g0 0 13) := by
  have k0_0 : g0 2 2 = g0 2 2 := rfl
  have k0_1 : g0 0 13 = g0 0 13 := rfl
  unfold fX6_readSum_5
  refine Ex.cb (sX6_readProduct_5_L4 fu hfu p1 g0 L0 hI hJ (by omega)) (fun x1 g2 L3 hq5 => ?_)
  obtain ⟨hI, hJ, kk0, kk1⟩ := hq5
  have hI : zI XT g2 := hI
  have hJ : pJ g2 := hJ
  have k0_0 : g2 2 2 = g0 2 2 := kk0.trans k0_0
  have k0_1 : g2 0 13 = g0 0 13 := kk1.trans k0_1
  have lp7 : ∀ (v1 : Int32) (v2 : Int32) (g : Nat → Nat → Int32) (L : Nat → Nat → Int64), (3 ≤ (Int32.toInt v1) ∧ (Int32.toInt v1) ≤ 3) → (0 ≤ (Int32.toInt v2) ∧ (Int32.toInt v2) ≤ 700) → zI XT g → pJ g → g 2 2 = g0 2 2 → g 0 13 = g0 0 13 → Ex (fX6_readSum_5_l7 fu (fX6_readExpr_5 fu 3) v1 v2 g L) (fun (r : Unit) (g1 : Nat → Nat → Int32) (L1 : Nat → Nat → Int64) => zI XT g1 ∧ pJ g1 ∧ g1 2 2 = g0 2 2 ∧ g1 0 13 = g0 0 13) := by
    intro v1 v2 g L hb_v1 hb_v2 hI hJ k0_0 k0_1
    unfold fX6_readSum_5_l7
    refine Ex.loop (fun v => ((3 ≤ (Int32.toInt v1) ∧ (Int32.toInt v1) ≤ 3)) ∧ ((0 ≤ (Int32.toInt (v.1)) ∧ (Int32.toInt (v.1)) ≤ 700)) ∧ (zI XT (v.2.1)) ∧ (pJ (v.2.1)) ∧ ((v.2.1) 2 2 = g0 2 2) ∧ ((v.2.1) 0 13 = g0 0 13)) (fun v => 701 - (Int32.toInt (v.1))) (by omega) (by show 701 - (Int32.toInt v2) < (fu : Int); omega) ⟨hb_v1, hb_v2, hI, hJ, k0_0, k0_1⟩ (fun k7 v hv ih7 => ?_)
    obtain ⟨v2, g, L⟩ := v
    obtain ⟨hb_v1, hb_v2, hI, hJ, k0_0, k0_1⟩ := hv
    have hb_v1 : (3 ≤ (Int32.toInt v1) ∧ (Int32.toInt v1) ≤ 3) := hb_v1
    have hb_v2 : (0 ≤ (Int32.toInt v2) ∧ (Int32.toInt v2) ≤ 700) := hb_v2
    have hI : zI XT g := hI
    have hJ : pJ g := hJ
    have k0_0 : g 2 2 = g0 2 2 := k0_0
    have k0_1 : g 0 13 = g0 0 13 := k0_1
    have ih7 : ∀ v' : Int32 × (Nat → Nat → Int32) × (Nat → Nat → Int64), (((3 ≤ (Int32.toInt v1) ∧ (Int32.toInt v1) ≤ 3)) ∧ ((0 ≤ (Int32.toInt (v'.1)) ∧ (Int32.toInt (v'.1)) ≤ 700)) ∧ (zI XT (v'.2.1)) ∧ (pJ (v'.2.1)) ∧ ((v'.2.1) 2 2 = g0 2 2) ∧ ((v'.2.1) 0 13 = g0 0 13)) → 701 - (Int32.toInt (v'.1)) < 701 - (Int32.toInt v2) → 0 < 701 - (Int32.toInt v2) → Ex (k7 v') (fun (r : Unit) (g1 : Nat → Nat → Int32) (L1 : Nat → Nat → Int64) => zI XT g1 ∧ pJ g1 ∧ g1 2 2 = g0 2 2 ∧ g1 0 13 = g0 0 13) := ih7
    show Ex (fX6_readSum_5_s7 fu (fX6_readExpr_5 fu 3) v1 k7 v2 g L) (fun (r : Unit) (g1 : Nat → Nat → Int32) (L1 : Nat → Nat → Int64) => zI XT g1 ∧ pJ g1 ∧ g1 2 2 = g0 2 2 ∧ g1 0 13 = g0 0 13)
    unfold fX6_readSum_5_s7
    have J75 : ∀ (g : Nat → Nat → Int32) (L : Nat → Nat → Int64), zI XT g → pJ g → g 2 2 = g0 2 2 → g 0 13 = g0 0 13 → Ex (fX6_readSum_5_p75 fu (fX6_readExpr_5 fu 3) g L) (fun (r : Unit) (g1 : Nat → Nat → Int32) (L1 : Nat → Nat → Int64) => zI XT g1 ∧ pJ g1 ∧ g1 2 2 = g0 2 2 ∧ g1 0 13 = g0 0 13) := by
      intro g L hI hJ k0_0 k0_1
      unfold fX6_readSum_5_p75
      exact Ex.ret ⟨hI, hJ, k0_0, k0_1⟩
    refine Ex.ite (fun c6 => ?_) (fun c6 => ?_)
    ·
      have c6 := icc_le (m := 700) (n := (Int32.toInt v2)) (by decide) rfl c6
      exact J75 g L hI hJ k0_0 k0_1
    ·
      have c6 := icc_nle (m := 700) (n := (Int32.toInt v2)) (by decide) rfl c6
      refine Ex.cb (sX6_isSignNow_5 fu hfu 43 g L hI hJ) (fun x7 g8 L9 hq11 => ?_)
      obtain ⟨hI, hJ, kk0, kk1, rb_⟩ := hq11
      have b12 : 0 ≤ (Int32.toInt x7) ∧ (Int32.toInt x7) ≤ 1 := rb_
      have hI : zI XT g8 := hI
      have hJ : pJ g8 := hJ
      have k0_0 : g8 2 2 = g0 2 2 := kk0.trans k0_0
      have k0_1 : g8 0 13 = g0 0 13 := kk1.trans k0_1
      have J32 : ∀ (g : Nat → Nat → Int32) (L : Nat → Nat → Int64), (3 ≤ (Int32.toInt v1) ∧ (Int32.toInt v1) ≤ 3) → (0 ≤ (Int32.toInt v2) ∧ (Int32.toInt v2) ≤ 699) → zI XT g → pJ g → g 2 2 = g0 2 2 → g 0 13 = g0 0 13 → Ex (fX6_readSum_5_p32 fu (fX6_readExpr_5 fu 3) k7 v1 v2 g L) (fun (r : Unit) (g1 : Nat → Nat → Int32) (L1 : Nat → Nat → Int64) => zI XT g1 ∧ pJ g1 ∧ g1 2 2 = g0 2 2 ∧ g1 0 13 = g0 0 13) := by
        intro g L hb_v1 hb_v2 hI hJ k0_0 k0_1
        unfold fX6_readSum_5_p32
        refine Ex.cb (sX6_isSignNow_5 fu hfu 43 g L hI hJ) (fun x13 g14 L15 hq17 => ?_)
        obtain ⟨hI, hJ, kk0, kk1, rb_⟩ := hq17
        have b18 : 0 ≤ (Int32.toInt x13) ∧ (Int32.toInt x13) ≤ 1 := rb_
        have hI : zI XT g14 := hI
        have hJ : pJ g14 := hJ
        have k0_0 : g14 2 2 = g0 2 2 := kk0.trans k0_0
        have k0_1 : g14 0 13 = g0 0 13 := kk1.trans k0_1
        have J48 : ∀ (t0 : Int32) (g : Nat → Nat → Int32) (L : Nat → Nat → Int64), (3 ≤ (Int32.toInt v1) ∧ (Int32.toInt v1) ≤ 3) → (0 ≤ (Int32.toInt v2) ∧ (Int32.toInt v2) ≤ 699) → ((-8) ≤ (Int32.toInt t0) ∧ (Int32.toInt t0) ≤ (-7)) → zI XT g → pJ g → g 2 2 = g0 2 2 → g 0 13 = g0 0 13 → Ex (fX6_readSum_5_p48 fu (fX6_readExpr_5 fu 3) k7 v1 v2 t0 g L) (fun (r : Unit) (g1 : Nat → Nat → Int32) (L1 : Nat → Nat → Int64) => zI XT g1 ∧ pJ g1 ∧ g1 2 2 = g0 2 2 ∧ g1 0 13 = g0 0 13) := by
          intro t0 g L hb_v1 hb_v2 hb_t0 hI hJ k0_0 k0_1
          unfold fX6_readSum_5_p48
          refine Ex.cb (sX6_advance_5 fu hfu g L hI hJ) (fun x19 g20 L21 hq23 => ?_)
          obtain ⟨hI, hJ, kk0, kk1⟩ := hq23
          have hI : zI XT g20 := hI
          have hJ : pJ g20 := hJ
          have k0_0 : g20 2 2 = g0 2 2 := kk0.trans k0_0
          have k0_1 : g20 0 13 = g0 0 13 := kk1.trans k0_1
          refine Ex.cb (sX6_readProduct_5_L4 fu hfu v1 g20 L21 hI hJ (by omega)) (fun x24 g25 L26 hq28 => ?_)
          obtain ⟨hI, hJ, kk0, kk1⟩ := hq28
          have hI : zI XT g25 := hI
          have hJ : pJ g25 := hJ
          have k0_0 : g25 2 2 = g0 2 2 := kk0.trans k0_0
          have k0_1 : g25 0 13 = g0 0 13 := kk1.trans k0_1
          refine Ex.cb (sX8_add_4 fu hfu t0 g25 L26 hI hJ) (fun x29 g30 L31 hq33 => ?_)
          obtain ⟨hI, hJ, kk0, kk1⟩ := hq33
          have hI : zI XT g30 := hI
          have hJ : pJ g30 := hJ
          have k0_0 : g30 2 2 = g0 2 2 := kk0.trans k0_0
          have k0_1 : g30 0 13 = g0 0 13 := kk1.trans k0_1
          generalize z34q : (v2 + 1) = z34
          have e35 : (Int32.toInt z34) = (Int32.toInt v2) + 1 := by rw [← z34q]; exact ic_addc rfl (by decide) (by omega) (by omega)
          exact ih7 (z34, g30, L31) ⟨(show (3 ≤ (Int32.toInt v1) ∧ (Int32.toInt v1) ≤ 3) from by omega), (show (0 ≤ (Int32.toInt z34) ∧ (Int32.toInt z34) ≤ 700) from by omega), hI, hJ, k0_0, k0_1⟩ (by show 701 - (Int32.toInt z34) < _; omega) (by omega)
        refine Ex.ite (fun c36 => ?_) (fun c36 => ?_)
        ·
          have c36 := icc_eq (m := (Int32.toInt x13)) (n := 0) rfl (by decide) c36
          exact J48 (-8) g14 L15 (by omega) (by omega) (by decide) hI hJ k0_0 k0_1
        ·
          have c36 := icc_neq (m := (Int32.toInt x13)) (n := 0) rfl (by decide) c36
          exact J48 (-7) g14 L15 (by omega) (by omega) (by decide) hI hJ k0_0 k0_1
      refine Ex.ite (fun c37 => ?_) (fun c37 => ?_)
      ·
        have c37 := icc_eq (m := (Int32.toInt x7)) (n := 0) rfl (by decide) c37
        refine Ex.cb (sX6_isSignNow_5 fu hfu 45 g8 L9 hI hJ) (fun x38 g39 L40 hq42 => ?_)
        obtain ⟨hI, hJ, kk0, kk1, rb_⟩ := hq42
        have b43 : 0 ≤ (Int32.toInt x38) ∧ (Int32.toInt x38) ≤ 1 := rb_
        have hI : zI XT g39 := hI
        have hJ : pJ g39 := hJ
        have k0_0 : g39 2 2 = g0 2 2 := kk0.trans k0_0
        have k0_1 : g39 0 13 = g0 0 13 := kk1.trans k0_1
        refine Ex.ite (fun c44 => ?_) (fun c44 => ?_)
        ·
          have c44 := icc_eq (m := (Int32.toInt x38)) (n := 0) rfl (by decide) c44
          exact J75 g39 L40 hI hJ k0_0 k0_1
        ·
          have c44 := icc_neq (m := (Int32.toInt x38)) (n := 0) rfl (by decide) c44
          exact J32 g39 L40 (by omega) (by omega) hI hJ k0_0 k0_1
      ·
        have c37 := icc_neq (m := (Int32.toInt x7)) (n := 0) rfl (by decide) c37
        exact J32 g8 L9 (by omega) (by omega) hI hJ k0_0 k0_1
  exact lp7 p1 0 g2 L3 (by omega) (by decide) hI hJ k0_0 k0_1
set_option maxHeartbeats 4000000 in
set_option maxRecDepth 100000 in
theorem sX6_readTest_5_L4 (fu : Nat) (hfu : 1180591620717411303424 ≤ fu) (p1 : Int32) (g0 : Nat → Nat → Int32) (L0 : Nat → Nat → Int64) (hI : zI XT g0) (hJ : pJ g0) (hp1 : (3 ≤ (Int32.toInt p1) ∧ (Int32.toInt p1) ≤ 3)) : Ex (fX6_readTest_5 fu (fX6_readExpr_5 fu 3) p1 g0 L0) (fun (r : Unit) (g1 : Nat → Nat → Int32) (L1 : Nat → Nat → Int64) => zI XT g1 ∧ pJ g1 ∧ g1 2 2 = g0 2 2 ∧ g1 0 13 = g0 0 13) := by
  have k0_0 : g0 2 2 = g0 2 2 := rfl
  have k0_1 : g0 0 13 = g0 0 13 := rfl
  unfold fX6_readTest_5
  refine Ex.cb (sX6_readSum_5_L4 fu hfu p1 g0 L0 hI hJ (by omega)) (fun x1 g2 L3 hq5 => ?_)
  obtain ⟨hI, hJ, kk0, kk1⟩ := hq5
  have hI : zI XT g2 := hI
  have hJ : pJ g2 := hJ
  have k0_0 : g2 2 2 = g0 2 2 := kk0.trans k0_0
  have k0_1 : g2 0 13 = g0 0 13 := kk1.trans k0_1
  refine Ex.cb (sX6_isSignNow_5 fu hfu 60 g2 L3 hI hJ) (fun x6 g7 L8 hq10 => ?_)
  obtain ⟨hI, hJ, kk0, kk1, rb_⟩ := hq10
  have b11 : 0 ≤ (Int32.toInt x6) ∧ (Int32.toInt x6) ≤ 1 := rb_
  have hI : zI XT g7 := hI
  have hJ : pJ g7 := hJ
  have k0_0 : g7 2 2 = g0 2 2 := kk0.trans k0_0
  have k0_1 : g7 0 13 = g0 0 13 := kk1.trans k0_1
  have J68 : ∀ (g : Nat → Nat → Int32) (L : Nat → Nat → Int64), zI XT g → pJ g → g 2 2 = g0 2 2 → g 0 13 = g0 0 13 → Ex (fX6_readTest_5_p68 fu (fX6_readExpr_5 fu 3) g L) (fun (r : Unit) (g1 : Nat → Nat → Int32) (L1 : Nat → Nat → Int64) => zI XT g1 ∧ pJ g1 ∧ g1 2 2 = g0 2 2 ∧ g1 0 13 = g0 0 13) := by
    intro g L hI hJ k0_0 k0_1
    unfold fX6_readTest_5_p68
    exact Ex.ret ⟨hI, hJ, k0_0, k0_1⟩
  refine Ex.ite (fun c12 => ?_) (fun c12 => ?_)
  ·
    have c12 := icc_eq (m := (Int32.toInt x6)) (n := 0) rfl (by decide) c12
    refine Ex.cb (sX6_isSignNow_5 fu hfu 61 g7 L8 hI hJ) (fun x13 g14 L15 hq17 => ?_)
    obtain ⟨hI, hJ, kk0, kk1, rb_⟩ := hq17
    have b18 : 0 ≤ (Int32.toInt x13) ∧ (Int32.toInt x13) ≤ 1 := rb_
    have hI : zI XT g14 := hI
    have hJ : pJ g14 := hJ
    have k0_0 : g14 2 2 = g0 2 2 := kk0.trans k0_0
    have k0_1 : g14 0 13 = g0 0 13 := kk1.trans k0_1
    refine Ex.ite (fun c19 => ?_) (fun c19 => ?_)
    ·
      have c19 := icc_eq (m := (Int32.toInt x13)) (n := 0) rfl (by decide) c19
      exact J68 g14 L15 hI hJ k0_0 k0_1
    ·
      have c19 := icc_neq (m := (Int32.toInt x13)) (n := 0) rfl (by decide) c19
      refine Ex.cb (sX6_advance_5 fu hfu g14 L15 hI hJ) (fun x20 g21 L22 hq24 => ?_)
      obtain ⟨hI, hJ, kk0, kk1⟩ := hq24
      have hI : zI XT g21 := hI
      have hJ : pJ g21 := hJ
      have k0_0 : g21 2 2 = g0 2 2 := kk0.trans k0_0
      have k0_1 : g21 0 13 = g0 0 13 := kk1.trans k0_1
      refine Ex.cb (sX6_readSum_5_L4 fu hfu p1 g21 L22 hI hJ (by omega)) (fun x25 g26 L27 hq29 => ?_)
      obtain ⟨hI, hJ, kk0, kk1⟩ := hq29
      have hI : zI XT g26 := hI
      have hJ : pJ g26 := hJ
      have k0_0 : g26 2 2 = g0 2 2 := kk0.trans k0_0
      have k0_1 : g26 0 13 = g0 0 13 := kk1.trans k0_1
      refine Ex.cb (sX8_add_4 fu hfu (-12) g26 L27 hI hJ) (fun x30 g31 L32 hq34 => ?_)
      obtain ⟨hI, hJ, kk0, kk1⟩ := hq34
      have hI : zI XT g31 := hI
      have hJ : pJ g31 := hJ
      have k0_0 : g31 2 2 = g0 2 2 := kk0.trans k0_0
      have k0_1 : g31 0 13 = g0 0 13 := kk1.trans k0_1
      exact J68 g31 L32 hI hJ k0_0 k0_1
  ·
    have c12 := icc_neq (m := (Int32.toInt x6)) (n := 0) rfl (by decide) c12
    refine Ex.cb (sX6_advance_5 fu hfu g7 L8 hI hJ) (fun x35 g36 L37 hq39 => ?_)
    obtain ⟨hI, hJ, kk0, kk1⟩ := hq39
    have hI : zI XT g36 := hI
    have hJ : pJ g36 := hJ
    have k0_0 : g36 2 2 = g0 2 2 := kk0.trans k0_0
    have k0_1 : g36 0 13 = g0 0 13 := kk1.trans k0_1
    refine Ex.cb (sX6_readSum_5_L4 fu hfu p1 g36 L37 hI hJ (by omega)) (fun x40 g41 L42 hq44 => ?_)
    obtain ⟨hI, hJ, kk0, kk1⟩ := hq44
    have hI : zI XT g41 := hI
    have hJ : pJ g41 := hJ
    have k0_0 : g41 2 2 = g0 2 2 := kk0.trans k0_0
    have k0_1 : g41 0 13 = g0 0 13 := kk1.trans k0_1
    refine Ex.cb (sX8_add_4 fu hfu (-11) g41 L42 hI hJ) (fun x45 g46 L47 hq49 => ?_)
    obtain ⟨hI, hJ, kk0, kk1⟩ := hq49
    have hI : zI XT g46 := hI
    have hJ : pJ g46 := hJ
    have k0_0 : g46 2 2 = g0 2 2 := kk0.trans k0_0
    have k0_1 : g46 0 13 = g0 0 13 := kk1.trans k0_1
    exact J68 g46 L47 hI hJ k0_0 k0_1
set_option maxHeartbeats 4000000 in
set_option maxRecDepth 100000 in
theorem sX6_readNot_5_L4 (fu : Nat) (hfu : 1180591620717411303424 ≤ fu) (p1 : Int32) (g0 : Nat → Nat → Int32) (L0 : Nat → Nat → Int64) (hI : zI XT g0) (hJ : pJ g0) (hp1 : (3 ≤ (Int32.toInt p1) ∧ (Int32.toInt p1) ≤ 3)) : Ex (fX6_readNot_5 fu (fX6_readExpr_5 fu 3) p1 g0 L0) (fun (r : Unit) (g1 : Nat → Nat → Int32) (L1 : Nat → Nat → Int64) => zI XT g1 ∧ pJ g1 ∧ g1 2 2 = g0 2 2 ∧ g1 0 13 = g0 0 13) := by
  have k0_0 : g0 2 2 = g0 2 2 := rfl
  have k0_1 : g0 0 13 = g0 0 13 := rfl
  unfold fX6_readNot_5
  have lp2 : ∀ (v1 : Int32) (v2 : Int32) (g : Nat → Nat → Int32) (L : Nat → Nat → Int64), (3 ≤ (Int32.toInt v1) ∧ (Int32.toInt v1) ≤ 3) → (0 ≤ (Int32.toInt v2) ∧ (Int32.toInt v2) ≤ 6) → zI XT g → pJ g → g 2 2 = g0 2 2 → g 0 13 = g0 0 13 → Ex (fX6_readNot_5_l2 fu (fX6_readExpr_5 fu 3) v1 v2 g L) (fun (r : Unit) (g1 : Nat → Nat → Int32) (L1 : Nat → Nat → Int64) => zI XT g1 ∧ pJ g1 ∧ g1 2 2 = g0 2 2 ∧ g1 0 13 = g0 0 13) := by
    intro v1 v2 g L hb_v1 hb_v2 hI hJ k0_0 k0_1
    unfold fX6_readNot_5_l2
    refine Ex.loop (fun v => ((3 ≤ (Int32.toInt v1) ∧ (Int32.toInt v1) ≤ 3)) ∧ ((0 ≤ (Int32.toInt (v.1)) ∧ (Int32.toInt (v.1)) ≤ 6)) ∧ (zI XT (v.2.1)) ∧ (pJ (v.2.1)) ∧ ((v.2.1) 2 2 = g0 2 2) ∧ ((v.2.1) 0 13 = g0 0 13)) (fun v => 7 - (Int32.toInt (v.1))) (by omega) (by show 7 - (Int32.toInt v2) < (fu : Int); omega) ⟨hb_v1, hb_v2, hI, hJ, k0_0, k0_1⟩ (fun k2 v hv ih2 => ?_)
    obtain ⟨v2, g, L⟩ := v
    obtain ⟨hb_v1, hb_v2, hI, hJ, k0_0, k0_1⟩ := hv
    have hb_v1 : (3 ≤ (Int32.toInt v1) ∧ (Int32.toInt v1) ≤ 3) := hb_v1
    have hb_v2 : (0 ≤ (Int32.toInt v2) ∧ (Int32.toInt v2) ≤ 6) := hb_v2
    have hI : zI XT g := hI
    have hJ : pJ g := hJ
    have k0_0 : g 2 2 = g0 2 2 := k0_0
    have k0_1 : g 0 13 = g0 0 13 := k0_1
    have ih2 : ∀ v' : Int32 × (Nat → Nat → Int32) × (Nat → Nat → Int64), (((3 ≤ (Int32.toInt v1) ∧ (Int32.toInt v1) ≤ 3)) ∧ ((0 ≤ (Int32.toInt (v'.1)) ∧ (Int32.toInt (v'.1)) ≤ 6)) ∧ (zI XT (v'.2.1)) ∧ (pJ (v'.2.1)) ∧ ((v'.2.1) 2 2 = g0 2 2) ∧ ((v'.2.1) 0 13 = g0 0 13)) → 7 - (Int32.toInt (v'.1)) < 7 - (Int32.toInt v2) → 0 < 7 - (Int32.toInt v2) → Ex (k2 v') (fun (r : Unit) (g1 : Nat → Nat → Int32) (L1 : Nat → Nat → Int64) => zI XT g1 ∧ pJ g1 ∧ g1 2 2 = g0 2 2 ∧ g1 0 13 = g0 0 13) := ih2
    show Ex (fX6_readNot_5_s2 fu (fX6_readExpr_5 fu 3) v1 k2 v2 g L) (fun (r : Unit) (g1 : Nat → Nat → Int32) (L1 : Nat → Nat → Int64) => zI XT g1 ∧ pJ g1 ∧ g1 2 2 = g0 2 2 ∧ g1 0 13 = g0 0 13)
    unfold fX6_readNot_5_s2
    have J27 : ∀ (v1 : Int32) (v2 : Int32) (g : Nat → Nat → Int32) (L : Nat → Nat → Int64), (3 ≤ (Int32.toInt v1) ∧ (Int32.toInt v1) ≤ 3) → (0 ≤ (Int32.toInt v2) ∧ (Int32.toInt v2) ≤ 6) → zI XT g → pJ g → g 2 2 = g0 2 2 → g 0 13 = g0 0 13 → Ex (fX6_readNot_5_p27 fu (fX6_readExpr_5 fu 3) v1 v2 g L) (fun (r : Unit) (g1 : Nat → Nat → Int32) (L1 : Nat → Nat → Int64) => zI XT g1 ∧ pJ g1 ∧ g1 2 2 = g0 2 2 ∧ g1 0 13 = g0 0 13) := by
      intro v1 v2 g L hb_v1 hb_v2 hI hJ k0_0 k0_1
      unfold fX6_readNot_5_p27
      refine Ex.cb (sX6_isWord_5_not fu hfu g L hI hJ) (fun x1 g2 L3 hq5 => ?_)
      obtain ⟨hI, hJ, kk0, kk1, rb_⟩ := hq5
      have b6 : 0 ≤ (Int32.toInt x1) ∧ (Int32.toInt x1) ≤ 1 := rb_
      have hI : zI XT g2 := hI
      have hJ : pJ g2 := hJ
      have k0_0 : g2 2 2 = g0 2 2 := kk0.trans k0_0
      have k0_1 : g2 0 13 = g0 0 13 := kk1.trans k0_1
      have J47 : ∀ (v1 : Int32) (v2 : Int32) (g : Nat → Nat → Int32) (L : Nat → Nat → Int64), (3 ≤ (Int32.toInt v1) ∧ (Int32.toInt v1) ≤ 3) → (0 ≤ (Int32.toInt v2) ∧ (Int32.toInt v2) ≤ 6) → zI XT g → pJ g → g 2 2 = g0 2 2 → g 0 13 = g0 0 13 → Ex (fX6_readNot_5_p47 fu (fX6_readExpr_5 fu 3) v1 v2 g L) (fun (r : Unit) (g1 : Nat → Nat → Int32) (L1 : Nat → Nat → Int64) => zI XT g1 ∧ pJ g1 ∧ g1 2 2 = g0 2 2 ∧ g1 0 13 = g0 0 13) := by
        intro v1 v2 g L hb_v1 hb_v2 hI hJ k0_0 k0_1
        unfold fX6_readNot_5_p47
        refine Ex.cb (sX6_readTest_5_L4 fu hfu v1 g L hI hJ (by omega)) (fun x7 g8 L9 hq11 => ?_)
        obtain ⟨hI, hJ, kk0, kk1⟩ := hq11
        have hI : zI XT g8 := hI
        have hJ : pJ g8 := hJ
        have k0_0 : g8 2 2 = g0 2 2 := kk0.trans k0_0
        have k0_1 : g8 0 13 = g0 0 13 := kk1.trans k0_1
        have lp54 : ∀ (v2 : Int32) (v3 : Int32) (g : Nat → Nat → Int32) (L : Nat → Nat → Int64), (0 ≤ (Int32.toInt v2) ∧ (Int32.toInt v2) ≤ 6) → (0 ≤ (Int32.toInt v3) ∧ (Int32.toInt v3) ≤ 6) → zI XT g → pJ g → g 2 2 = g0 2 2 → g 0 13 = g0 0 13 → Ex (fX6_readNot_5_l54 fu (fX6_readExpr_5 fu 3) v2 v3 g L) (fun (r : Unit) (g1 : Nat → Nat → Int32) (L1 : Nat → Nat → Int64) => zI XT g1 ∧ pJ g1 ∧ g1 2 2 = g0 2 2 ∧ g1 0 13 = g0 0 13) := by
          intro v2 v3 g L hb_v2 hb_v3 hI hJ k0_0 k0_1
          unfold fX6_readNot_5_l54
          refine Ex.loop (fun v => ((0 ≤ (Int32.toInt v2) ∧ (Int32.toInt v2) ≤ 6)) ∧ ((0 ≤ (Int32.toInt (v.1)) ∧ (Int32.toInt (v.1)) ≤ 6)) ∧ (zI XT (v.2.1)) ∧ (pJ (v.2.1)) ∧ ((v.2.1) 2 2 = g0 2 2) ∧ ((v.2.1) 0 13 = g0 0 13)) (fun v => 7 - (Int32.toInt (v.1))) (by omega) (by show 7 - (Int32.toInt v3) < (fu : Int); omega) ⟨hb_v2, hb_v3, hI, hJ, k0_0, k0_1⟩ (fun k54 v hv ih54 => ?_)
          obtain ⟨v3, g, L⟩ := v
          obtain ⟨hb_v2, hb_v3, hI, hJ, k0_0, k0_1⟩ := hv
          have hb_v2 : (0 ≤ (Int32.toInt v2) ∧ (Int32.toInt v2) ≤ 6) := hb_v2
          have hb_v3 : (0 ≤ (Int32.toInt v3) ∧ (Int32.toInt v3) ≤ 6) := hb_v3
          have hI : zI XT g := hI
          have hJ : pJ g := hJ
          have k0_0 : g 2 2 = g0 2 2 := k0_0
          have k0_1 : g 0 13 = g0 0 13 := k0_1
          have ih54 : ∀ v' : Int32 × (Nat → Nat → Int32) × (Nat → Nat → Int64), (((0 ≤ (Int32.toInt v2) ∧ (Int32.toInt v2) ≤ 6)) ∧ ((0 ≤ (Int32.toInt (v'.1)) ∧ (Int32.toInt (v'.1)) ≤ 6)) ∧ (zI XT (v'.2.1)) ∧ (pJ (v'.2.1)) ∧ ((v'.2.1) 2 2 = g0 2 2) ∧ ((v'.2.1) 0 13 = g0 0 13)) → 7 - (Int32.toInt (v'.1)) < 7 - (Int32.toInt v3) → 0 < 7 - (Int32.toInt v3) → Ex (k54 v') (fun (r : Unit) (g1 : Nat → Nat → Int32) (L1 : Nat → Nat → Int64) => zI XT g1 ∧ pJ g1 ∧ g1 2 2 = g0 2 2 ∧ g1 0 13 = g0 0 13) := ih54
          show Ex (fX6_readNot_5_s54 fu (fX6_readExpr_5 fu 3) v2 k54 v3 g L) (fun (r : Unit) (g1 : Nat → Nat → Int32) (L1 : Nat → Nat → Int64) => zI XT g1 ∧ pJ g1 ∧ g1 2 2 = g0 2 2 ∧ g1 0 13 = g0 0 13)
          unfold fX6_readNot_5_s54
          refine Ex.ite (fun c12 => ?_) (fun c12 => ?_)
          ·
            have c12 := icc_le (m := (Int32.toInt v2)) (n := (Int32.toInt v3)) rfl rfl c12
            exact Ex.ret ⟨hI, hJ, k0_0, k0_1⟩
          ·
            have c12 := icc_nle (m := (Int32.toInt v2)) (n := (Int32.toInt v3)) rfl rfl c12
            refine Ex.cb (sX8_add_4 fu hfu (-15) g L hI hJ) (fun x13 g14 L15 hq17 => ?_)
            obtain ⟨hI, hJ, kk0, kk1⟩ := hq17
            have hI : zI XT g14 := hI
            have hJ : pJ g14 := hJ
            have k0_0 : g14 2 2 = g0 2 2 := kk0.trans k0_0
            have k0_1 : g14 0 13 = g0 0 13 := kk1.trans k0_1
            generalize z18q : (v3 + 1) = z18
            have e19 : (Int32.toInt z18) = (Int32.toInt v3) + 1 := by rw [← z18q]; exact ic_addc rfl (by decide) (by omega) (by omega)
            exact ih54 (z18, g14, L15) ⟨(show (0 ≤ (Int32.toInt v2) ∧ (Int32.toInt v2) ≤ 6) from by omega), (show (0 ≤ (Int32.toInt z18) ∧ (Int32.toInt z18) ≤ 6) from by omega), hI, hJ, k0_0, k0_1⟩ (by show 7 - (Int32.toInt z18) < _; omega) (by omega)
        exact lp54 v2 0 g8 L9 (by omega) (by decide) hI hJ k0_0 k0_1
      refine Ex.ite (fun c20 => ?_) (fun c20 => ?_)
      ·
        have c20 := icc_eq (m := (Int32.toInt x1)) (n := 0) rfl (by decide) c20
        exact J47 v1 v2 g2 L3 (by omega) (by omega) hI hJ k0_0 k0_1
      ·
        have c20 := icc_neq (m := (Int32.toInt x1)) (n := 0) rfl (by decide) c20
        refine Ex.ite (fun c21 => ?_) (fun c21 => ?_)
        ·
          have c21 := icc_lt (m := (Int32.toInt v2)) (n := 6) rfl (by decide) c21
          exact J47 v1 v2 g2 L3 (by omega) (by omega) hI hJ k0_0 k0_1
        ·
          have c21 := icc_nlt (m := (Int32.toInt v2)) (n := 6) rfl (by decide) c21
          refine Ex.cb (sX6_refuse_5 fu hfu 2 g2 L3 hI hJ) (fun x22 g23 L24 hq26 => ?_)
          obtain ⟨hI, hJ, kk0, kk1⟩ := hq26
          have hI : zI XT g23 := hI
          have hJ : pJ g23 := hJ
          have k0_0 : g23 2 2 = g0 2 2 := kk0.trans k0_0
          have k0_1 : g23 0 13 = g0 0 13 := kk1.trans k0_1
          exact J47 v1 v2 g23 L24 (by omega) (by omega) hI hJ k0_0 k0_1
    refine Ex.ite (fun c27 => ?_) (fun c27 => ?_)
    ·
      have c27 := icc_le (m := 6) (n := (Int32.toInt v2)) (by decide) rfl c27
      exact J27 v1 v2 g L (by omega) (by omega) hI hJ k0_0 k0_1
    ·
      have c27 := icc_nle (m := 6) (n := (Int32.toInt v2)) (by decide) rfl c27
      refine Ex.cb (sX6_isWord_5_not fu hfu g L hI hJ) (fun x28 g29 L30 hq32 => ?_)
      obtain ⟨hI, hJ, kk0, kk1, rb_⟩ := hq32
      have b33 : 0 ≤ (Int32.toInt x28) ∧ (Int32.toInt x28) ≤ 1 := rb_
      have hI : zI XT g29 := hI
      have hJ : pJ g29 := hJ
      have k0_0 : g29 2 2 = g0 2 2 := kk0.trans k0_0
      have k0_1 : g29 0 13 = g0 0 13 := kk1.trans k0_1
      refine Ex.ite (fun c34 => ?_) (fun c34 => ?_)
      ·
        have c34 := icc_eq (m := (Int32.toInt x28)) (n := 0) rfl (by decide) c34
        exact J27 v1 v2 g29 L30 (by omega) (by omega) hI hJ k0_0 k0_1
      ·
        have c34 := icc_neq (m := (Int32.toInt x28)) (n := 0) rfl (by decide) c34
        generalize z35q : (v2 + 1) = z35
        have e36 : (Int32.toInt z35) = (Int32.toInt v2) + 1 := by rw [← z35q]; exact ic_addc rfl (by decide) (by omega) (by omega)
        refine Ex.cb (sX6_advance_5 fu hfu g29 L30 hI hJ) (fun x37 g38 L39 hq41 => ?_)
        obtain ⟨hI, hJ, kk0, kk1⟩ := hq41
        have hI : zI XT g38 := hI
        have hJ : pJ g38 := hJ
        have k0_0 : g38 2 2 = g0 2 2 := kk0.trans k0_0
        have k0_1 : g38 0 13 = g0 0 13 := kk1.trans k0_1
        exact ih2 (z35, g38, L39) ⟨(show (3 ≤ (Int32.toInt v1) ∧ (Int32.toInt v1) ≤ 3) from by omega), (show (0 ≤ (Int32.toInt z35) ∧ (Int32.toInt z35) ≤ 6) from by omega), hI, hJ, k0_0, k0_1⟩ (by show 7 - (Int32.toInt z35) < _; omega) (by omega)
  exact lp2 p1 0 g0 L0 (by omega) (by decide) hI hJ k0_0 k0_1
set_option maxHeartbeats 4000000 in
set_option maxRecDepth 100000 in
theorem sX6_readAnd_5_L4 (fu : Nat) (hfu : 1180591620717411303424 ≤ fu) (p1 : Int32) (g0 : Nat → Nat → Int32) (L0 : Nat → Nat → Int64) (hI : zI XT g0) (hJ : pJ g0) (hp1 : (3 ≤ (Int32.toInt p1) ∧ (Int32.toInt p1) ≤ 3)) : Ex (fX6_readAnd_5 fu (fX6_readExpr_5 fu 3) p1 g0 L0) (fun (r : Unit) (g1 : Nat → Nat → Int32) (L1 : Nat → Nat → Int64) => zI XT g1 ∧ pJ g1 ∧ g1 2 2 = g0 2 2 ∧ g1 0 13 = g0 0 13) := by
  have k0_0 : g0 2 2 = g0 2 2 := rfl
  have k0_1 : g0 0 13 = g0 0 13 := rfl
  unfold fX6_readAnd_5
  refine Ex.cb (sX6_readNot_5_L4 fu hfu p1 g0 L0 hI hJ (by omega)) (fun x1 g2 L3 hq5 => ?_)
  obtain ⟨hI, hJ, kk0, kk1⟩ := hq5
  have hI : zI XT g2 := hI
  have hJ : pJ g2 := hJ
  have k0_0 : g2 2 2 = g0 2 2 := kk0.trans k0_0
  have k0_1 : g2 0 13 = g0 0 13 := kk1.trans k0_1
  have lp7 : ∀ (v1 : Int32) (v2 : Int32) (g : Nat → Nat → Int32) (L : Nat → Nat → Int64), (3 ≤ (Int32.toInt v1) ∧ (Int32.toInt v1) ≤ 3) → (0 ≤ (Int32.toInt v2) ∧ (Int32.toInt v2) ≤ 700) → zI XT g → pJ g → g 2 2 = g0 2 2 → g 0 13 = g0 0 13 → Ex (fX6_readAnd_5_l7 fu (fX6_readExpr_5 fu 3) v1 v2 g L) (fun (r : Unit) (g1 : Nat → Nat → Int32) (L1 : Nat → Nat → Int64) => zI XT g1 ∧ pJ g1 ∧ g1 2 2 = g0 2 2 ∧ g1 0 13 = g0 0 13) := by
    intro v1 v2 g L hb_v1 hb_v2 hI hJ k0_0 k0_1
    unfold fX6_readAnd_5_l7
    refine Ex.loop (fun v => ((3 ≤ (Int32.toInt v1) ∧ (Int32.toInt v1) ≤ 3)) ∧ ((0 ≤ (Int32.toInt (v.1)) ∧ (Int32.toInt (v.1)) ≤ 700)) ∧ (zI XT (v.2.1)) ∧ (pJ (v.2.1)) ∧ ((v.2.1) 2 2 = g0 2 2) ∧ ((v.2.1) 0 13 = g0 0 13)) (fun v => 701 - (Int32.toInt (v.1))) (by omega) (by show 701 - (Int32.toInt v2) < (fu : Int); omega) ⟨hb_v1, hb_v2, hI, hJ, k0_0, k0_1⟩ (fun k7 v hv ih7 => ?_)
    obtain ⟨v2, g, L⟩ := v
    obtain ⟨hb_v1, hb_v2, hI, hJ, k0_0, k0_1⟩ := hv
    have hb_v1 : (3 ≤ (Int32.toInt v1) ∧ (Int32.toInt v1) ≤ 3) := hb_v1
    have hb_v2 : (0 ≤ (Int32.toInt v2) ∧ (Int32.toInt v2) ≤ 700) := hb_v2
    have hI : zI XT g := hI
    have hJ : pJ g := hJ
    have k0_0 : g 2 2 = g0 2 2 := k0_0
    have k0_1 : g 0 13 = g0 0 13 := k0_1
    have ih7 : ∀ v' : Int32 × (Nat → Nat → Int32) × (Nat → Nat → Int64), (((3 ≤ (Int32.toInt v1) ∧ (Int32.toInt v1) ≤ 3)) ∧ ((0 ≤ (Int32.toInt (v'.1)) ∧ (Int32.toInt (v'.1)) ≤ 700)) ∧ (zI XT (v'.2.1)) ∧ (pJ (v'.2.1)) ∧ ((v'.2.1) 2 2 = g0 2 2) ∧ ((v'.2.1) 0 13 = g0 0 13)) → 701 - (Int32.toInt (v'.1)) < 701 - (Int32.toInt v2) → 0 < 701 - (Int32.toInt v2) → Ex (k7 v') (fun (r : Unit) (g1 : Nat → Nat → Int32) (L1 : Nat → Nat → Int64) => zI XT g1 ∧ pJ g1 ∧ g1 2 2 = g0 2 2 ∧ g1 0 13 = g0 0 13) := ih7
    show Ex (fX6_readAnd_5_s7 fu (fX6_readExpr_5 fu 3) v1 k7 v2 g L) (fun (r : Unit) (g1 : Nat → Nat → Int32) (L1 : Nat → Nat → Int64) => zI XT g1 ∧ pJ g1 ∧ g1 2 2 = g0 2 2 ∧ g1 0 13 = g0 0 13)
    unfold fX6_readAnd_5_s7
    have J50 : ∀ (g : Nat → Nat → Int32) (L : Nat → Nat → Int64), zI XT g → pJ g → g 2 2 = g0 2 2 → g 0 13 = g0 0 13 → Ex (fX6_readAnd_5_p50 fu (fX6_readExpr_5 fu 3) g L) (fun (r : Unit) (g1 : Nat → Nat → Int32) (L1 : Nat → Nat → Int64) => zI XT g1 ∧ pJ g1 ∧ g1 2 2 = g0 2 2 ∧ g1 0 13 = g0 0 13) := by
      intro g L hI hJ k0_0 k0_1
      unfold fX6_readAnd_5_p50
      exact Ex.ret ⟨hI, hJ, k0_0, k0_1⟩
    refine Ex.ite (fun c6 => ?_) (fun c6 => ?_)
    ·
      have c6 := icc_le (m := 700) (n := (Int32.toInt v2)) (by decide) rfl c6
      exact J50 g L hI hJ k0_0 k0_1
    ·
      have c6 := icc_nle (m := 700) (n := (Int32.toInt v2)) (by decide) rfl c6
      refine Ex.cb (sX6_isWord_5_and fu hfu g L hI hJ) (fun x7 g8 L9 hq11 => ?_)
      obtain ⟨hI, hJ, kk0, kk1, rb_⟩ := hq11
      have b12 : 0 ≤ (Int32.toInt x7) ∧ (Int32.toInt x7) ≤ 1 := rb_
      have hI : zI XT g8 := hI
      have hJ : pJ g8 := hJ
      have k0_0 : g8 2 2 = g0 2 2 := kk0.trans k0_0
      have k0_1 : g8 0 13 = g0 0 13 := kk1.trans k0_1
      refine Ex.ite (fun c13 => ?_) (fun c13 => ?_)
      ·
        have c13 := icc_eq (m := (Int32.toInt x7)) (n := 0) rfl (by decide) c13
        exact J50 g8 L9 hI hJ k0_0 k0_1
      ·
        have c13 := icc_neq (m := (Int32.toInt x7)) (n := 0) rfl (by decide) c13
        refine Ex.cb (sX6_advance_5 fu hfu g8 L9 hI hJ) (fun x14 g15 L16 hq18 => ?_)
        obtain ⟨hI, hJ, kk0, kk1⟩ := hq18
        have hI : zI XT g15 := hI
        have hJ : pJ g15 := hJ
        have k0_0 : g15 2 2 = g0 2 2 := kk0.trans k0_0
        have k0_1 : g15 0 13 = g0 0 13 := kk1.trans k0_1
        refine Ex.cb (sX6_readNot_5_L4 fu hfu v1 g15 L16 hI hJ (by omega)) (fun x19 g20 L21 hq23 => ?_)
        obtain ⟨hI, hJ, kk0, kk1⟩ := hq23
        have hI : zI XT g20 := hI
        have hJ : pJ g20 := hJ
        have k0_0 : g20 2 2 = g0 2 2 := kk0.trans k0_0
        have k0_1 : g20 0 13 = g0 0 13 := kk1.trans k0_1
        refine Ex.cb (sX8_add_4 fu hfu (-13) g20 L21 hI hJ) (fun x24 g25 L26 hq28 => ?_)
        obtain ⟨hI, hJ, kk0, kk1⟩ := hq28
        have hI : zI XT g25 := hI
        have hJ : pJ g25 := hJ
        have k0_0 : g25 2 2 = g0 2 2 := kk0.trans k0_0
        have k0_1 : g25 0 13 = g0 0 13 := kk1.trans k0_1
        generalize z29q : (v2 + 1) = z29
        have e30 : (Int32.toInt z29) = (Int32.toInt v2) + 1 := by rw [← z29q]; exact ic_addc rfl (by decide) (by omega) (by omega)
        exact ih7 (z29, g25, L26) ⟨(show (3 ≤ (Int32.toInt v1) ∧ (Int32.toInt v1) ≤ 3) from by omega), (show (0 ≤ (Int32.toInt z29) ∧ (Int32.toInt z29) ≤ 700) from by omega), hI, hJ, k0_0, k0_1⟩ (by show 701 - (Int32.toInt z29) < _; omega) (by omega)
  exact lp7 p1 0 g2 L3 (by omega) (by decide) hI hJ k0_0 k0_1
set_option maxHeartbeats 4000000 in
set_option maxRecDepth 100000 in
theorem sX6_readExpr_5_L4 (fu : Nat) (hfu : 1180591620717411303424 ≤ fu) (p1 : Int32) (g0 : Nat → Nat → Int32) (L0 : Nat → Nat → Int64) (hI : zI XT g0) (hJ : pJ g0) (hp1 : (3 ≤ (Int32.toInt p1) ∧ (Int32.toInt p1) ≤ 3)) : Ex (fX6_readExpr_5 fu 4 p1 g0 L0) (fun (r : Unit) (g1 : Nat → Nat → Int32) (L1 : Nat → Nat → Int64) => zI XT g1 ∧ pJ g1 ∧ g1 2 2 = g0 2 2 ∧ g1 0 13 = g0 0 13) := by
  have k0_0 : g0 2 2 = g0 2 2 := rfl
  have k0_1 : g0 0 13 = g0 0 13 := rfl
  rw [fX6_readExpr_5_succ]
  unfold fX6_readExpr_5B
  have J35 : ∀ (v1 : Int32) (g : Nat → Nat → Int32) (L : Nat → Nat → Int64), (3 ≤ (Int32.toInt v1) ∧ (Int32.toInt v1) ≤ 3) → zI XT g → pJ g → g 2 2 = g0 2 2 → g 0 13 = g0 0 13 → Ex (fX6_readExpr_5_p35 fu (fX6_readExpr_5 fu 3) v1 g L) (fun (r : Unit) (g1 : Nat → Nat → Int32) (L1 : Nat → Nat → Int64) => zI XT g1 ∧ pJ g1 ∧ g1 2 2 = g0 2 2 ∧ g1 0 13 = g0 0 13) := by
    intro v1 g L hb_v1 hI hJ k0_0 k0_1
    unfold fX6_readExpr_5_p35
    refine Ex.cb (sX6_readAnd_5_L4 fu hfu v1 g L hI hJ (by omega)) (fun x1 g2 L3 hq5 => ?_)
    obtain ⟨hI, hJ, kk0, kk1⟩ := hq5
    have hI : zI XT g2 := hI
    have hJ : pJ g2 := hJ
    have k0_0 : g2 2 2 = g0 2 2 := kk0.trans k0_0
    have k0_1 : g2 0 13 = g0 0 13 := kk1.trans k0_1
    have lp42 : ∀ (v1 : Int32) (v2 : Int32) (g : Nat → Nat → Int32) (L : Nat → Nat → Int64), (3 ≤ (Int32.toInt v1) ∧ (Int32.toInt v1) ≤ 3) → (0 ≤ (Int32.toInt v2) ∧ (Int32.toInt v2) ≤ 700) → zI XT g → pJ g → g 2 2 = g0 2 2 → g 0 13 = g0 0 13 → Ex (fX6_readExpr_5_l42 fu (fX6_readExpr_5 fu 3) v1 v2 g L) (fun (r : Unit) (g1 : Nat → Nat → Int32) (L1 : Nat → Nat → Int64) => zI XT g1 ∧ pJ g1 ∧ g1 2 2 = g0 2 2 ∧ g1 0 13 = g0 0 13) := by
      intro v1 v2 g L hb_v1 hb_v2 hI hJ k0_0 k0_1
      unfold fX6_readExpr_5_l42
      refine Ex.loop (fun v => ((3 ≤ (Int32.toInt v1) ∧ (Int32.toInt v1) ≤ 3)) ∧ ((0 ≤ (Int32.toInt (v.1)) ∧ (Int32.toInt (v.1)) ≤ 700)) ∧ (zI XT (v.2.1)) ∧ (pJ (v.2.1)) ∧ ((v.2.1) 2 2 = g0 2 2) ∧ ((v.2.1) 0 13 = g0 0 13)) (fun v => 701 - (Int32.toInt (v.1))) (by omega) (by show 701 - (Int32.toInt v2) < (fu : Int); omega) ⟨hb_v1, hb_v2, hI, hJ, k0_0, k0_1⟩ (fun k42 v hv ih42 => ?_)
      obtain ⟨v2, g, L⟩ := v
      obtain ⟨hb_v1, hb_v2, hI, hJ, k0_0, k0_1⟩ := hv
      have hb_v1 : (3 ≤ (Int32.toInt v1) ∧ (Int32.toInt v1) ≤ 3) := hb_v1
      have hb_v2 : (0 ≤ (Int32.toInt v2) ∧ (Int32.toInt v2) ≤ 700) := hb_v2
      have hI : zI XT g := hI
      have hJ : pJ g := hJ
      have k0_0 : g 2 2 = g0 2 2 := k0_0
      have k0_1 : g 0 13 = g0 0 13 := k0_1
      have ih42 : ∀ v' : Int32 × (Nat → Nat → Int32) × (Nat → Nat → Int64), (((3 ≤ (Int32.toInt v1) ∧ (Int32.toInt v1) ≤ 3)) ∧ ((0 ≤ (Int32.toInt (v'.1)) ∧ (Int32.toInt (v'.1)) ≤ 700)) ∧ (zI XT (v'.2.1)) ∧ (pJ (v'.2.1)) ∧ ((v'.2.1) 2 2 = g0 2 2) ∧ ((v'.2.1) 0 13 = g0 0 13)) → 701 - (Int32.toInt (v'.1)) < 701 - (Int32.toInt v2) → 0 < 701 - (Int32.toInt v2) → Ex (k42 v') (fun (r : Unit) (g1 : Nat → Nat → Int32) (L1 : Nat → Nat → Int64) => zI XT g1 ∧ pJ g1 ∧ g1 2 2 = g0 2 2 ∧ g1 0 13 = g0 0 13) := ih42
      show Ex (fX6_readExpr_5_s42 fu (fX6_readExpr_5 fu 3) v1 k42 v2 g L) (fun (r : Unit) (g1 : Nat → Nat → Int32) (L1 : Nat → Nat → Int64) => zI XT g1 ∧ pJ g1 ∧ g1 2 2 = g0 2 2 ∧ g1 0 13 = g0 0 13)
      unfold fX6_readExpr_5_s42
      have J85 : ∀ (g : Nat → Nat → Int32) (L : Nat → Nat → Int64), zI XT g → pJ g → g 2 2 = g0 2 2 → g 0 13 = g0 0 13 → Ex (fX6_readExpr_5_p85 fu (fX6_readExpr_5 fu 3) g L) (fun (r : Unit) (g1 : Nat → Nat → Int32) (L1 : Nat → Nat → Int64) => zI XT g1 ∧ pJ g1 ∧ g1 2 2 = g0 2 2 ∧ g1 0 13 = g0 0 13) := by
        intro g L hI hJ k0_0 k0_1
        unfold fX6_readExpr_5_p85
        exact Ex.ret ⟨hI, hJ, k0_0, k0_1⟩
      refine Ex.ite (fun c6 => ?_) (fun c6 => ?_)
      ·
        have c6 := icc_le (m := 700) (n := (Int32.toInt v2)) (by decide) rfl c6
        exact J85 g L hI hJ k0_0 k0_1
      ·
        have c6 := icc_nle (m := 700) (n := (Int32.toInt v2)) (by decide) rfl c6
        refine Ex.cb (sX6_isWord_5_or fu hfu g L hI hJ) (fun x7 g8 L9 hq11 => ?_)
        obtain ⟨hI, hJ, kk0, kk1, rb_⟩ := hq11
        have b12 : 0 ≤ (Int32.toInt x7) ∧ (Int32.toInt x7) ≤ 1 := rb_
        have hI : zI XT g8 := hI
        have hJ : pJ g8 := hJ
        have k0_0 : g8 2 2 = g0 2 2 := kk0.trans k0_0
        have k0_1 : g8 0 13 = g0 0 13 := kk1.trans k0_1
        refine Ex.ite (fun c13 => ?_) (fun c13 => ?_)
        ·
          have c13 := icc_eq (m := (Int32.toInt x7)) (n := 0) rfl (by decide) c13
          exact J85 g8 L9 hI hJ k0_0 k0_1
        ·
          have c13 := icc_neq (m := (Int32.toInt x7)) (n := 0) rfl (by decide) c13
          refine Ex.cb (sX6_advance_5 fu hfu g8 L9 hI hJ) (fun x14 g15 L16 hq18 => ?_)
          obtain ⟨hI, hJ, kk0, kk1⟩ := hq18
          have hI : zI XT g15 := hI
          have hJ : pJ g15 := hJ
          have k0_0 : g15 2 2 = g0 2 2 := kk0.trans k0_0
          have k0_1 : g15 0 13 = g0 0 13 := kk1.trans k0_1
          refine Ex.cb (sX6_readAnd_5_L4 fu hfu v1 g15 L16 hI hJ (by omega)) (fun x19 g20 L21 hq23 => ?_)
          obtain ⟨hI, hJ, kk0, kk1⟩ := hq23
          have hI : zI XT g20 := hI
          have hJ : pJ g20 := hJ
          have k0_0 : g20 2 2 = g0 2 2 := kk0.trans k0_0
          have k0_1 : g20 0 13 = g0 0 13 := kk1.trans k0_1
          refine Ex.cb (sX8_add_4 fu hfu (-14) g20 L21 hI hJ) (fun x24 g25 L26 hq28 => ?_)
          obtain ⟨hI, hJ, kk0, kk1⟩ := hq28
          have hI : zI XT g25 := hI
          have hJ : pJ g25 := hJ
          have k0_0 : g25 2 2 = g0 2 2 := kk0.trans k0_0
          have k0_1 : g25 0 13 = g0 0 13 := kk1.trans k0_1
          generalize z29q : (v2 + 1) = z29
          have e30 : (Int32.toInt z29) = (Int32.toInt v2) + 1 := by rw [← z29q]; exact ic_addc rfl (by decide) (by omega) (by omega)
          exact ih42 (z29, g25, L26) ⟨(show (3 ≤ (Int32.toInt v1) ∧ (Int32.toInt v1) ≤ 3) from by omega), (show (0 ≤ (Int32.toInt z29) ∧ (Int32.toInt z29) ≤ 700) from by omega), hI, hJ, k0_0, k0_1⟩ (by show 701 - (Int32.toInt z29) < _; omega) (by omega)
    exact lp42 v1 0 g2 L3 (by omega) (by decide) hI hJ k0_0 k0_1
  refine Ex.ite (fun c31 => ?_) (fun c31 => ?_)
  ·
    have c31 := icc_le (m := (Int32.toInt p1)) (n := 5) rfl (by decide) c31
    exact J35 p1 g0 L0 (by omega) hI hJ k0_0 k0_1
  ·
    have c31 := icc_nle (m := (Int32.toInt p1)) (n := 5) rfl (by decide) c31
    omega
set_option maxHeartbeats 4000000 in
set_option maxRecDepth 100000 in
theorem sX6_readPart_5_L5 (fu : Nat) (hfu : 1180591620717411303424 ≤ fu) (p1 : Int32) (g0 : Nat → Nat → Int32) (L0 : Nat → Nat → Int64) (hI : zI XT g0) (hJ : pJ g0) (hp1 : (2 ≤ (Int32.toInt p1) ∧ (Int32.toInt p1) ≤ 2)) : Ex (fX6_readPart_5 fu (fX6_readExpr_5 fu 4) p1 g0 L0) (fun (r : Unit) (g1 : Nat → Nat → Int32) (L1 : Nat → Nat → Int64) => zI XT g1 ∧ pJ g1 ∧ g1 2 2 = g0 2 2 ∧ g1 0 13 = g0 0 13) := by
  have k0_0 : g0 2 2 = g0 2 2 := rfl
  have k0_1 : g0 0 13 = g0 0 13 := rfl
  unfold fX6_readPart_5
  have J111 : ∀ (g : Nat → Nat → Int32) (L : Nat → Nat → Int64), zI XT g → pJ g → g 2 2 = g0 2 2 → g 0 13 = g0 0 13 → Ex (fX6_readPart_5_p111 fu (fX6_readExpr_5 fu 4) g L) (fun (r : Unit) (g1 : Nat → Nat → Int32) (L1 : Nat → Nat → Int64) => zI XT g1 ∧ pJ g1 ∧ g1 2 2 = g0 2 2 ∧ g1 0 13 = g0 0 13) := by
    intro g L hI hJ k0_0 k0_1
    unfold fX6_readPart_5_p111
    exact Ex.ret ⟨hI, hJ, k0_0, k0_1⟩
  refine Ex.ite (fun c1 => ?_) (fun c1 => ?_)
  ·
    have c1 := icc_eq (m := (Int32.toInt (g0 5 4))) (n := 1) rfl (by decide) c1
    refine Ex.cb (sX6_readNumber_5 fu hfu 0 9999 g0 L0 hI hJ) (fun x2 g3 L4 hq6 => ?_)
    obtain ⟨hI, hJ, kk0, kk1, rb_⟩ := hq6
    have b7 : 0 ≤ (Int32.toInt x2) ∧ (Int32.toInt x2) ≤ 9999 := rb_
    have hI : zI XT g3 := hI
    have hJ : pJ g3 := hJ
    have k0_0 : g3 2 2 = g0 2 2 := kk0.trans k0_0
    have k0_1 : g3 0 13 = g0 0 13 := kk1.trans k0_1
    refine Ex.cb (sX8_add_4 fu hfu x2 g3 L4 hI hJ) (fun x8 g9 L10 hq12 => ?_)
    obtain ⟨hI, hJ, kk0, kk1⟩ := hq12
    have hI : zI XT g9 := hI
    have hJ : pJ g9 := hJ
    have k0_0 : g9 2 2 = g0 2 2 := kk0.trans k0_0
    have k0_1 : g9 0 13 = g0 0 13 := kk1.trans k0_1
    exact J111 g9 L10 hI hJ k0_0 k0_1
  ·
    have c1 := icc_neq (m := (Int32.toInt (g0 5 4))) (n := 1) rfl (by decide) c1
    refine Ex.ite (fun c13 => ?_) (fun c13 => ?_)
    ·
      have c13 := icc_eq (m := (Int32.toInt (g0 5 4))) (n := 2) rfl (by decide) c13
      refine Ex.cb (sX6_valueNow_5 fu hfu g0 L0 hI hJ) (fun x14 g15 L16 hq18 => ?_)
      obtain ⟨hI, hJ, kk0, kk1, rb_⟩ := hq18
      have b19 : (-1) ≤ (Int32.toInt x14) ∧ (Int32.toInt x14) ≤ 5 := rb_
      have hI : zI XT g15 := hI
      have hJ : pJ g15 := hJ
      have k0_0 : g15 2 2 = g0 2 2 := kk0.trans k0_0
      have k0_1 : g15 0 13 = g0 0 13 := kk1.trans k0_1
      have J52 : ∀ (v2 : Int32) (g : Nat → Nat → Int32) (L : Nat → Nat → Int64), ((-1) ≤ (Int32.toInt v2) ∧ (Int32.toInt v2) ≤ 5) → zI XT g → pJ g → g 2 2 = g0 2 2 → g 0 13 = g0 0 13 → Ex (fX6_readPart_5_p52 fu (fX6_readExpr_5 fu 4) v2 g L) (fun (r : Unit) (g1 : Nat → Nat → Int32) (L1 : Nat → Nat → Int64) => zI XT g1 ∧ pJ g1 ∧ g1 2 2 = g0 2 2 ∧ g1 0 13 = g0 0 13) := by
        intro v2 g L hb_v2 hI hJ k0_0 k0_1
        unfold fX6_readPart_5_p52
        generalize z20q : ((-1) - v2) = z20
        have e21 : (Int32.toInt z20) = (-1) - (Int32.toInt v2) := by rw [← z20q]; exact ic_subc (by decide) rfl (by omega) (by omega)
        refine Ex.cb (sX8_add_4 fu hfu z20 g L hI hJ) (fun x22 g23 L24 hq26 => ?_)
        obtain ⟨hI, hJ, kk0, kk1⟩ := hq26
        have hI : zI XT g23 := hI
        have hJ : pJ g23 := hJ
        have k0_0 : g23 2 2 = g0 2 2 := kk0.trans k0_0
        have k0_1 : g23 0 13 = g0 0 13 := kk1.trans k0_1
        refine Ex.cb (sX6_advance_5 fu hfu g23 L24 hI hJ) (fun x27 g28 L29 hq31 => ?_)
        obtain ⟨hI, hJ, kk0, kk1⟩ := hq31
        have hI : zI XT g28 := hI
        have hJ : pJ g28 := hJ
        have k0_0 : g28 2 2 = g0 2 2 := kk0.trans k0_0
        have k0_1 : g28 0 13 = g0 0 13 := kk1.trans k0_1
        exact J111 g28 L29 hI hJ k0_0 k0_1
      refine Ex.ite (fun c32 => ?_) (fun c32 => ?_)
      ·
        have c32 := icc_eq (m := (Int32.toInt x14)) (n := (-1)) rfl (by decide) c32
        refine Ex.cb (sX6_refuse_5 fu hfu 3 g15 L16 hI hJ) (fun x33 g34 L35 hq37 => ?_)
        obtain ⟨hI, hJ, kk0, kk1⟩ := hq37
        have hI : zI XT g34 := hI
        have hJ : pJ g34 := hJ
        have k0_0 : g34 2 2 = g0 2 2 := kk0.trans k0_0
        have k0_1 : g34 0 13 = g0 0 13 := kk1.trans k0_1
        exact J52 x14 g34 L35 (by omega) hI hJ k0_0 k0_1
      ·
        have c32 := icc_neq (m := (Int32.toInt x14)) (n := (-1)) rfl (by decide) c32
        exact J52 x14 g15 L16 (by omega) hI hJ k0_0 k0_1
    ·
      have c13 := icc_neq (m := (Int32.toInt (g0 5 4))) (n := 2) rfl (by decide) c13
      refine Ex.cb (sX6_isSignNow_5 fu hfu 40 g0 L0 hI hJ) (fun x38 g39 L40 hq42 => ?_)
      obtain ⟨hI, hJ, kk0, kk1, rb_⟩ := hq42
      have b43 : 0 ≤ (Int32.toInt x38) ∧ (Int32.toInt x38) ≤ 1 := rb_
      have hI : zI XT g39 := hI
      have hJ : pJ g39 := hJ
      have k0_0 : g39 2 2 = g0 2 2 := kk0.trans k0_0
      have k0_1 : g39 0 13 = g0 0 13 := kk1.trans k0_1
      have J106 : ∀ (g : Nat → Nat → Int32) (L : Nat → Nat → Int64), zI XT g → pJ g → g 2 2 = g0 2 2 → g 0 13 = g0 0 13 → Ex (fX6_readPart_5_p106 fu (fX6_readExpr_5 fu 4) g L) (fun (r : Unit) (g1 : Nat → Nat → Int32) (L1 : Nat → Nat → Int64) => zI XT g1 ∧ pJ g1 ∧ g1 2 2 = g0 2 2 ∧ g1 0 13 = g0 0 13) := by
        intro g L hI hJ k0_0 k0_1
        unfold fX6_readPart_5_p106
        refine Ex.cb (sX6_refuse_5 fu hfu 1 g L hI hJ) (fun x44 g45 L46 hq48 => ?_)
        obtain ⟨hI, hJ, kk0, kk1⟩ := hq48
        have hI : zI XT g45 := hI
        have hJ : pJ g45 := hJ
        have k0_0 : g45 2 2 = g0 2 2 := kk0.trans k0_0
        have k0_1 : g45 0 13 = g0 0 13 := kk1.trans k0_1
        exact J111 g45 L46 hI hJ k0_0 k0_1
      refine Ex.ite (fun c49 => ?_) (fun c49 => ?_)
      ·
        have c49 := icc_eq (m := (Int32.toInt x38)) (n := 0) rfl (by decide) c49
        exact J106 g39 L40 hI hJ k0_0 k0_1
      ·
        have c49 := icc_neq (m := (Int32.toInt x38)) (n := 0) rfl (by decide) c49
        refine Ex.ite (fun c50 => ?_) (fun c50 => ?_)
        ·
          have c50 := icc_lt (m := 5) (n := (Int32.toInt p1)) (by decide) rfl c50
          omega
        ·
          have c50 := icc_nlt (m := 5) (n := (Int32.toInt p1)) (by decide) rfl c50
          refine Ex.cb (sX6_advance_5 fu hfu g39 L40 hI hJ) (fun x51 g52 L53 hq55 => ?_)
          obtain ⟨hI, hJ, kk0, kk1⟩ := hq55
          have hI : zI XT g52 := hI
          have hJ : pJ g52 := hJ
          have k0_0 : g52 2 2 = g0 2 2 := kk0.trans k0_0
          have k0_1 : g52 0 13 = g0 0 13 := kk1.trans k0_1
          generalize z56q : (p1 + 1) = z56
          have e57 : (Int32.toInt z56) = (Int32.toInt p1) + 1 := by rw [← z56q]; exact ic_addc rfl (by decide) (by omega) (by omega)
          refine Ex.cb (sX6_readExpr_5_L4 fu hfu z56 g52 L53 hI hJ (by omega)) (fun x58 g59 L60 hq62 => ?_)
          obtain ⟨hI, hJ, kk0, kk1⟩ := hq62
          have hI : zI XT g59 := hI
          have hJ : pJ g59 := hJ
          have k0_0 : g59 2 2 = g0 2 2 := kk0.trans k0_0
          have k0_1 : g59 0 13 = g0 0 13 := kk1.trans k0_1
          refine Ex.cb (sX6_readSign_5 fu hfu 41 g59 L60 hI hJ) (fun x63 g64 L65 hq67 => ?_)
          obtain ⟨hI, hJ, kk0, kk1⟩ := hq67
          have hI : zI XT g64 := hI
          have hJ : pJ g64 := hJ
          have k0_0 : g64 2 2 = g0 2 2 := kk0.trans k0_0
          have k0_1 : g64 0 13 = g0 0 13 := kk1.trans k0_1
          exact J111 g64 L65 hI hJ k0_0 k0_1
set_option maxHeartbeats 4000000 in
set_option maxRecDepth 100000 in
theorem sX6_readProduct_5_L5 (fu : Nat) (hfu : 1180591620717411303424 ≤ fu) (p1 : Int32) (g0 : Nat → Nat → Int32) (L0 : Nat → Nat → Int64) (hI : zI XT g0) (hJ : pJ g0) (hp1 : (2 ≤ (Int32.toInt p1) ∧ (Int32.toInt p1) ≤ 2)) : Ex (fX6_readProduct_5 fu (fX6_readExpr_5 fu 4) p1 g0 L0) (fun (r : Unit) (g1 : Nat → Nat → Int32) (L1 : Nat → Nat → Int64) => zI XT g1 ∧ pJ g1 ∧ g1 2 2 = g0 2 2 ∧ g1 0 13 = g0 0 13) := by
  have k0_0 : g0 2 2 = g0 2 2 := rfl
  have k0_1 : g0 0 13 = g0 0 13 := rfl
  unfold fX6_readProduct_5
  refine Ex.cb (sX6_readPart_5_L5 fu hfu p1 g0 L0 hI hJ (by omega)) (fun x1 g2 L3 hq5 => ?_)
  obtain ⟨hI, hJ, kk0, kk1⟩ := hq5
  have hI : zI XT g2 := hI
  have hJ : pJ g2 := hJ
  have k0_0 : g2 2 2 = g0 2 2 := kk0.trans k0_0
  have k0_1 : g2 0 13 = g0 0 13 := kk1.trans k0_1
  have lp7 : ∀ (v1 : Int32) (v2 : Int32) (g : Nat → Nat → Int32) (L : Nat → Nat → Int64), (2 ≤ (Int32.toInt v1) ∧ (Int32.toInt v1) ≤ 2) → (0 ≤ (Int32.toInt v2) ∧ (Int32.toInt v2) ≤ 700) → zI XT g → pJ g → g 2 2 = g0 2 2 → g 0 13 = g0 0 13 → Ex (fX6_readProduct_5_l7 fu (fX6_readExpr_5 fu 4) v1 v2 g L) (fun (r : Unit) (g1 : Nat → Nat → Int32) (L1 : Nat → Nat → Int64) => zI XT g1 ∧ pJ g1 ∧ g1 2 2 = g0 2 2 ∧ g1 0 13 = g0 0 13) := by
    intro v1 v2 g L hb_v1 hb_v2 hI hJ k0_0 k0_1
    unfold fX6_readProduct_5_l7
    refine Ex.loop (fun v => ((2 ≤ (Int32.toInt v1) ∧ (Int32.toInt v1) ≤ 2)) ∧ ((0 ≤ (Int32.toInt (v.1)) ∧ (Int32.toInt (v.1)) ≤ 700)) ∧ (zI XT (v.2.1)) ∧ (pJ (v.2.1)) ∧ ((v.2.1) 2 2 = g0 2 2) ∧ ((v.2.1) 0 13 = g0 0 13)) (fun v => 701 - (Int32.toInt (v.1))) (by omega) (by show 701 - (Int32.toInt v2) < (fu : Int); omega) ⟨hb_v1, hb_v2, hI, hJ, k0_0, k0_1⟩ (fun k7 v hv ih7 => ?_)
    obtain ⟨v2, g, L⟩ := v
    obtain ⟨hb_v1, hb_v2, hI, hJ, k0_0, k0_1⟩ := hv
    have hb_v1 : (2 ≤ (Int32.toInt v1) ∧ (Int32.toInt v1) ≤ 2) := hb_v1
    have hb_v2 : (0 ≤ (Int32.toInt v2) ∧ (Int32.toInt v2) ≤ 700) := hb_v2
    have hI : zI XT g := hI
    have hJ : pJ g := hJ
    have k0_0 : g 2 2 = g0 2 2 := k0_0
    have k0_1 : g 0 13 = g0 0 13 := k0_1
    have ih7 : ∀ v' : Int32 × (Nat → Nat → Int32) × (Nat → Nat → Int64), (((2 ≤ (Int32.toInt v1) ∧ (Int32.toInt v1) ≤ 2)) ∧ ((0 ≤ (Int32.toInt (v'.1)) ∧ (Int32.toInt (v'.1)) ≤ 700)) ∧ (zI XT (v'.2.1)) ∧ (pJ (v'.2.1)) ∧ ((v'.2.1) 2 2 = g0 2 2) ∧ ((v'.2.1) 0 13 = g0 0 13)) → 701 - (Int32.toInt (v'.1)) < 701 - (Int32.toInt v2) → 0 < 701 - (Int32.toInt v2) → Ex (k7 v') (fun (r : Unit) (g1 : Nat → Nat → Int32) (L1 : Nat → Nat → Int64) => zI XT g1 ∧ pJ g1 ∧ g1 2 2 = g0 2 2 ∧ g1 0 13 = g0 0 13) := ih7
    show Ex (fX6_readProduct_5_s7 fu (fX6_readExpr_5 fu 4) v1 k7 v2 g L) (fun (r : Unit) (g1 : Nat → Nat → Int32) (L1 : Nat → Nat → Int64) => zI XT g1 ∧ pJ g1 ∧ g1 2 2 = g0 2 2 ∧ g1 0 13 = g0 0 13)
    unfold fX6_readProduct_5_s7
    have J75 : ∀ (g : Nat → Nat → Int32) (L : Nat → Nat → Int64), zI XT g → pJ g → g 2 2 = g0 2 2 → g 0 13 = g0 0 13 → Ex (fX6_readProduct_5_p75 fu (fX6_readExpr_5 fu 4) g L) (fun (r : Unit) (g1 : Nat → Nat → Int32) (L1 : Nat → Nat → Int64) => zI XT g1 ∧ pJ g1 ∧ g1 2 2 = g0 2 2 ∧ g1 0 13 = g0 0 13) := by
      intro g L hI hJ k0_0 k0_1
      unfold fX6_readProduct_5_p75
      exact Ex.ret ⟨hI, hJ, k0_0, k0_1⟩
    refine Ex.ite (fun c6 => ?_) (fun c6 => ?_)
    ·
      have c6 := icc_le (m := 700) (n := (Int32.toInt v2)) (by decide) rfl c6
      exact J75 g L hI hJ k0_0 k0_1
    ·
      have c6 := icc_nle (m := 700) (n := (Int32.toInt v2)) (by decide) rfl c6
      refine Ex.cb (sX6_isSignNow_5 fu hfu 42 g L hI hJ) (fun x7 g8 L9 hq11 => ?_)
      obtain ⟨hI, hJ, kk0, kk1, rb_⟩ := hq11
      have b12 : 0 ≤ (Int32.toInt x7) ∧ (Int32.toInt x7) ≤ 1 := rb_
      have hI : zI XT g8 := hI
      have hJ : pJ g8 := hJ
      have k0_0 : g8 2 2 = g0 2 2 := kk0.trans k0_0
      have k0_1 : g8 0 13 = g0 0 13 := kk1.trans k0_1
      have J32 : ∀ (g : Nat → Nat → Int32) (L : Nat → Nat → Int64), (2 ≤ (Int32.toInt v1) ∧ (Int32.toInt v1) ≤ 2) → (0 ≤ (Int32.toInt v2) ∧ (Int32.toInt v2) ≤ 699) → zI XT g → pJ g → g 2 2 = g0 2 2 → g 0 13 = g0 0 13 → Ex (fX6_readProduct_5_p32 fu (fX6_readExpr_5 fu 4) k7 v1 v2 g L) (fun (r : Unit) (g1 : Nat → Nat → Int32) (L1 : Nat → Nat → Int64) => zI XT g1 ∧ pJ g1 ∧ g1 2 2 = g0 2 2 ∧ g1 0 13 = g0 0 13) := by
        intro g L hb_v1 hb_v2 hI hJ k0_0 k0_1
        unfold fX6_readProduct_5_p32
        refine Ex.cb (sX6_isSignNow_5 fu hfu 42 g L hI hJ) (fun x13 g14 L15 hq17 => ?_)
        obtain ⟨hI, hJ, kk0, kk1, rb_⟩ := hq17
        have b18 : 0 ≤ (Int32.toInt x13) ∧ (Int32.toInt x13) ≤ 1 := rb_
        have hI : zI XT g14 := hI
        have hJ : pJ g14 := hJ
        have k0_0 : g14 2 2 = g0 2 2 := kk0.trans k0_0
        have k0_1 : g14 0 13 = g0 0 13 := kk1.trans k0_1
        have J48 : ∀ (t0 : Int32) (g : Nat → Nat → Int32) (L : Nat → Nat → Int64), (2 ≤ (Int32.toInt v1) ∧ (Int32.toInt v1) ≤ 2) → (0 ≤ (Int32.toInt v2) ∧ (Int32.toInt v2) ≤ 699) → ((-10) ≤ (Int32.toInt t0) ∧ (Int32.toInt t0) ≤ (-9)) → zI XT g → pJ g → g 2 2 = g0 2 2 → g 0 13 = g0 0 13 → Ex (fX6_readProduct_5_p48 fu (fX6_readExpr_5 fu 4) k7 v1 v2 t0 g L) (fun (r : Unit) (g1 : Nat → Nat → Int32) (L1 : Nat → Nat → Int64) => zI XT g1 ∧ pJ g1 ∧ g1 2 2 = g0 2 2 ∧ g1 0 13 = g0 0 13) := by
          intro t0 g L hb_v1 hb_v2 hb_t0 hI hJ k0_0 k0_1
          unfold fX6_readProduct_5_p48
          refine Ex.cb (sX6_advance_5 fu hfu g L hI hJ) (fun x19 g20 L21 hq23 => ?_)
          obtain ⟨hI, hJ, kk0, kk1⟩ := hq23
          have hI : zI XT g20 := hI
          have hJ : pJ g20 := hJ
          have k0_0 : g20 2 2 = g0 2 2 := kk0.trans k0_0
          have k0_1 : g20 0 13 = g0 0 13 := kk1.trans k0_1
          refine Ex.cb (sX6_readPart_5_L5 fu hfu v1 g20 L21 hI hJ (by omega)) (fun x24 g25 L26 hq28 => ?_)
          obtain ⟨hI, hJ, kk0, kk1⟩ := hq28
          have hI : zI XT g25 := hI
          have hJ : pJ g25 := hJ
          have k0_0 : g25 2 2 = g0 2 2 := kk0.trans k0_0
          have k0_1 : g25 0 13 = g0 0 13 := kk1.trans k0_1
          refine Ex.cb (sX8_add_4 fu hfu t0 g25 L26 hI hJ) (fun x29 g30 L31 hq33 => ?_)
          obtain ⟨hI, hJ, kk0, kk1⟩ := hq33
          have hI : zI XT g30 := hI
          have hJ : pJ g30 := hJ
          have k0_0 : g30 2 2 = g0 2 2 := kk0.trans k0_0
          have k0_1 : g30 0 13 = g0 0 13 := kk1.trans k0_1
          generalize z34q : (v2 + 1) = z34
          have e35 : (Int32.toInt z34) = (Int32.toInt v2) + 1 := by rw [← z34q]; exact ic_addc rfl (by decide) (by omega) (by omega)
          exact ih7 (z34, g30, L31) ⟨(show (2 ≤ (Int32.toInt v1) ∧ (Int32.toInt v1) ≤ 2) from by omega), (show (0 ≤ (Int32.toInt z34) ∧ (Int32.toInt z34) ≤ 700) from by omega), hI, hJ, k0_0, k0_1⟩ (by show 701 - (Int32.toInt z34) < _; omega) (by omega)
        refine Ex.ite (fun c36 => ?_) (fun c36 => ?_)
        ·
          have c36 := icc_eq (m := (Int32.toInt x13)) (n := 0) rfl (by decide) c36
          exact J48 (-10) g14 L15 (by omega) (by omega) (by decide) hI hJ k0_0 k0_1
        ·
          have c36 := icc_neq (m := (Int32.toInt x13)) (n := 0) rfl (by decide) c36
          exact J48 (-9) g14 L15 (by omega) (by omega) (by decide) hI hJ k0_0 k0_1
      refine Ex.ite (fun c37 => ?_) (fun c37 => ?_)
      ·
        have c37 := icc_eq (m := (Int32.toInt x7)) (n := 0) rfl (by decide) c37
        refine Ex.cb (sX6_isSignNow_5 fu hfu 47 g8 L9 hI hJ) (fun x38 g39 L40 hq42 => ?_)
        obtain ⟨hI, hJ, kk0, kk1, rb_⟩ := hq42
        have b43 : 0 ≤ (Int32.toInt x38) ∧ (Int32.toInt x38) ≤ 1 := rb_
        have hI : zI XT g39 := hI
        have hJ : pJ g39 := hJ
        have k0_0 : g39 2 2 = g0 2 2 := kk0.trans k0_0
        have k0_1 : g39 0 13 = g0 0 13 := kk1.trans k0_1
        refine Ex.ite (fun c44 => ?_) (fun c44 => ?_)
        ·
          have c44 := icc_eq (m := (Int32.toInt x38)) (n := 0) rfl (by decide) c44
          exact J75 g39 L40 hI hJ k0_0 k0_1
        ·
          have c44 := icc_neq (m := (Int32.toInt x38)) (n := 0) rfl (by decide) c44
          exact J32 g39 L40 (by omega) (by omega) hI hJ k0_0 k0_1
      ·
        have c37 := icc_neq (m := (Int32.toInt x7)) (n := 0) rfl (by decide) c37
        exact J32 g8 L9 (by omega) (by omega) hI hJ k0_0 k0_1
  exact lp7 p1 0 g2 L3 (by omega) (by decide) hI hJ k0_0 k0_1
set_option maxHeartbeats 4000000 in
set_option maxRecDepth 100000 in
theorem sX6_readSum_5_L5 (fu : Nat) (hfu : 1180591620717411303424 ≤ fu) (p1 : Int32) (g0 : Nat → Nat → Int32) (L0 : Nat → Nat → Int64) (hI : zI XT g0) (hJ : pJ g0) (hp1 : (2 ≤ (Int32.toInt p1) ∧ (Int32.toInt p1) ≤ 2)) : Ex (fX6_readSum_5 fu (fX6_readExpr_5 fu 4) p1 g0 L0) (fun (r : Unit) (g1 : Nat → Nat → Int32) (L1 : Nat → Nat → Int64) => zI XT g1 ∧ pJ g1 ∧ g1 2 2 = g0 2 2 ∧ g1 0 13 = g0 0 13) := by
  have k0_0 : g0 2 2 = g0 2 2 := rfl
  have k0_1 : g0 0 13 = g0 0 13 := rfl
  unfold fX6_readSum_5
  refine Ex.cb (sX6_readProduct_5_L5 fu hfu p1 g0 L0 hI hJ (by omega)) (fun x1 g2 L3 hq5 => ?_)
  obtain ⟨hI, hJ, kk0, kk1⟩ := hq5
  have hI : zI XT g2 := hI
  have hJ : pJ g2 := hJ
  have k0_0 : g2 2 2 = g0 2 2 := kk0.trans k0_0
  have k0_1 : g2 0 13 = g0 0 13 := kk1.trans k0_1
  have lp7 : ∀ (v1 : Int32) (v2 : Int32) (g : Nat → Nat → Int32) (L : Nat → Nat → Int64), (2 ≤ (Int32.toInt v1) ∧ (Int32.toInt v1) ≤ 2) → (0 ≤ (Int32.toInt v2) ∧ (Int32.toInt v2) ≤ 700) → zI XT g → pJ g → g 2 2 = g0 2 2 → g 0 13 = g0 0 13 → Ex (fX6_readSum_5_l7 fu (fX6_readExpr_5 fu 4) v1 v2 g L) (fun (r : Unit) (g1 : Nat → Nat → Int32) (L1 : Nat → Nat → Int64) => zI XT g1 ∧ pJ g1 ∧ g1 2 2 = g0 2 2 ∧ g1 0 13 = g0 0 13) := by
    intro v1 v2 g L hb_v1 hb_v2 hI hJ k0_0 k0_1
    unfold fX6_readSum_5_l7
    refine Ex.loop (fun v => ((2 ≤ (Int32.toInt v1) ∧ (Int32.toInt v1) ≤ 2)) ∧ ((0 ≤ (Int32.toInt (v.1)) ∧ (Int32.toInt (v.1)) ≤ 700)) ∧ (zI XT (v.2.1)) ∧ (pJ (v.2.1)) ∧ ((v.2.1) 2 2 = g0 2 2) ∧ ((v.2.1) 0 13 = g0 0 13)) (fun v => 701 - (Int32.toInt (v.1))) (by omega) (by show 701 - (Int32.toInt v2) < (fu : Int); omega) ⟨hb_v1, hb_v2, hI, hJ, k0_0, k0_1⟩ (fun k7 v hv ih7 => ?_)
    obtain ⟨v2, g, L⟩ := v
    obtain ⟨hb_v1, hb_v2, hI, hJ, k0_0, k0_1⟩ := hv
    have hb_v1 : (2 ≤ (Int32.toInt v1) ∧ (Int32.toInt v1) ≤ 2) := hb_v1
    have hb_v2 : (0 ≤ (Int32.toInt v2) ∧ (Int32.toInt v2) ≤ 700) := hb_v2
    have hI : zI XT g := hI
    have hJ : pJ g := hJ
    have k0_0 : g 2 2 = g0 2 2 := k0_0
    have k0_1 : g 0 13 = g0 0 13 := k0_1
    have ih7 : ∀ v' : Int32 × (Nat → Nat → Int32) × (Nat → Nat → Int64), (((2 ≤ (Int32.toInt v1) ∧ (Int32.toInt v1) ≤ 2)) ∧ ((0 ≤ (Int32.toInt (v'.1)) ∧ (Int32.toInt (v'.1)) ≤ 700)) ∧ (zI XT (v'.2.1)) ∧ (pJ (v'.2.1)) ∧ ((v'.2.1) 2 2 = g0 2 2) ∧ ((v'.2.1) 0 13 = g0 0 13)) → 701 - (Int32.toInt (v'.1)) < 701 - (Int32.toInt v2) → 0 < 701 - (Int32.toInt v2) → Ex (k7 v') (fun (r : Unit) (g1 : Nat → Nat → Int32) (L1 : Nat → Nat → Int64) => zI XT g1 ∧ pJ g1 ∧ g1 2 2 = g0 2 2 ∧ g1 0 13 = g0 0 13) := ih7
    show Ex (fX6_readSum_5_s7 fu (fX6_readExpr_5 fu 4) v1 k7 v2 g L) (fun (r : Unit) (g1 : Nat → Nat → Int32) (L1 : Nat → Nat → Int64) => zI XT g1 ∧ pJ g1 ∧ g1 2 2 = g0 2 2 ∧ g1 0 13 = g0 0 13)
    unfold fX6_readSum_5_s7
    have J75 : ∀ (g : Nat → Nat → Int32) (L : Nat → Nat → Int64), zI XT g → pJ g → g 2 2 = g0 2 2 → g 0 13 = g0 0 13 → Ex (fX6_readSum_5_p75 fu (fX6_readExpr_5 fu 4) g L) (fun (r : Unit) (g1 : Nat → Nat → Int32) (L1 : Nat → Nat → Int64) => zI XT g1 ∧ pJ g1 ∧ g1 2 2 = g0 2 2 ∧ g1 0 13 = g0 0 13) := by
      intro g L hI hJ k0_0 k0_1
      unfold fX6_readSum_5_p75
      exact Ex.ret ⟨hI, hJ, k0_0, k0_1⟩
    refine Ex.ite (fun c6 => ?_) (fun c6 => ?_)
    ·
      have c6 := icc_le (m := 700) (n := (Int32.toInt v2)) (by decide) rfl c6
      exact J75 g L hI hJ k0_0 k0_1
    ·
      have c6 := icc_nle (m := 700) (n := (Int32.toInt v2)) (by decide) rfl c6
      refine Ex.cb (sX6_isSignNow_5 fu hfu 43 g L hI hJ) (fun x7 g8 L9 hq11 => ?_)
      obtain ⟨hI, hJ, kk0, kk1, rb_⟩ := hq11
      have b12 : 0 ≤ (Int32.toInt x7) ∧ (Int32.toInt x7) ≤ 1 := rb_
      have hI : zI XT g8 := hI
      have hJ : pJ g8 := hJ
      have k0_0 : g8 2 2 = g0 2 2 := kk0.trans k0_0
      have k0_1 : g8 0 13 = g0 0 13 := kk1.trans k0_1
      have J32 : ∀ (g : Nat → Nat → Int32) (L : Nat → Nat → Int64), (2 ≤ (Int32.toInt v1) ∧ (Int32.toInt v1) ≤ 2) → (0 ≤ (Int32.toInt v2) ∧ (Int32.toInt v2) ≤ 699) → zI XT g → pJ g → g 2 2 = g0 2 2 → g 0 13 = g0 0 13 → Ex (fX6_readSum_5_p32 fu (fX6_readExpr_5 fu 4) k7 v1 v2 g L) (fun (r : Unit) (g1 : Nat → Nat → Int32) (L1 : Nat → Nat → Int64) => zI XT g1 ∧ pJ g1 ∧ g1 2 2 = g0 2 2 ∧ g1 0 13 = g0 0 13) := by
        intro g L hb_v1 hb_v2 hI hJ k0_0 k0_1
        unfold fX6_readSum_5_p32
        refine Ex.cb (sX6_isSignNow_5 fu hfu 43 g L hI hJ) (fun x13 g14 L15 hq17 => ?_)
        obtain ⟨hI, hJ, kk0, kk1, rb_⟩ := hq17
        have b18 : 0 ≤ (Int32.toInt x13) ∧ (Int32.toInt x13) ≤ 1 := rb_
        have hI : zI XT g14 := hI
        have hJ : pJ g14 := hJ
        have k0_0 : g14 2 2 = g0 2 2 := kk0.trans k0_0
        have k0_1 : g14 0 13 = g0 0 13 := kk1.trans k0_1
        have J48 : ∀ (t0 : Int32) (g : Nat → Nat → Int32) (L : Nat → Nat → Int64), (2 ≤ (Int32.toInt v1) ∧ (Int32.toInt v1) ≤ 2) → (0 ≤ (Int32.toInt v2) ∧ (Int32.toInt v2) ≤ 699) → ((-8) ≤ (Int32.toInt t0) ∧ (Int32.toInt t0) ≤ (-7)) → zI XT g → pJ g → g 2 2 = g0 2 2 → g 0 13 = g0 0 13 → Ex (fX6_readSum_5_p48 fu (fX6_readExpr_5 fu 4) k7 v1 v2 t0 g L) (fun (r : Unit) (g1 : Nat → Nat → Int32) (L1 : Nat → Nat → Int64) => zI XT g1 ∧ pJ g1 ∧ g1 2 2 = g0 2 2 ∧ g1 0 13 = g0 0 13) := by
          intro t0 g L hb_v1 hb_v2 hb_t0 hI hJ k0_0 k0_1
          unfold fX6_readSum_5_p48
          refine Ex.cb (sX6_advance_5 fu hfu g L hI hJ) (fun x19 g20 L21 hq23 => ?_)
          obtain ⟨hI, hJ, kk0, kk1⟩ := hq23
          have hI : zI XT g20 := hI
          have hJ : pJ g20 := hJ
          have k0_0 : g20 2 2 = g0 2 2 := kk0.trans k0_0
          have k0_1 : g20 0 13 = g0 0 13 := kk1.trans k0_1
          refine Ex.cb (sX6_readProduct_5_L5 fu hfu v1 g20 L21 hI hJ (by omega)) (fun x24 g25 L26 hq28 => ?_)
          obtain ⟨hI, hJ, kk0, kk1⟩ := hq28
          have hI : zI XT g25 := hI
          have hJ : pJ g25 := hJ
          have k0_0 : g25 2 2 = g0 2 2 := kk0.trans k0_0
          have k0_1 : g25 0 13 = g0 0 13 := kk1.trans k0_1
          refine Ex.cb (sX8_add_4 fu hfu t0 g25 L26 hI hJ) (fun x29 g30 L31 hq33 => ?_)
          obtain ⟨hI, hJ, kk0, kk1⟩ := hq33
          have hI : zI XT g30 := hI
          have hJ : pJ g30 := hJ
          have k0_0 : g30 2 2 = g0 2 2 := kk0.trans k0_0
          have k0_1 : g30 0 13 = g0 0 13 := kk1.trans k0_1
          generalize z34q : (v2 + 1) = z34
          have e35 : (Int32.toInt z34) = (Int32.toInt v2) + 1 := by rw [← z34q]; exact ic_addc rfl (by decide) (by omega) (by omega)
          exact ih7 (z34, g30, L31) ⟨(show (2 ≤ (Int32.toInt v1) ∧ (Int32.toInt v1) ≤ 2) from by omega), (show (0 ≤ (Int32.toInt z34) ∧ (Int32.toInt z34) ≤ 700) from by omega), hI, hJ, k0_0, k0_1⟩ (by show 701 - (Int32.toInt z34) < _; omega) (by omega)
        refine Ex.ite (fun c36 => ?_) (fun c36 => ?_)
        ·
          have c36 := icc_eq (m := (Int32.toInt x13)) (n := 0) rfl (by decide) c36
          exact J48 (-8) g14 L15 (by omega) (by omega) (by decide) hI hJ k0_0 k0_1
        ·
          have c36 := icc_neq (m := (Int32.toInt x13)) (n := 0) rfl (by decide) c36
          exact J48 (-7) g14 L15 (by omega) (by omega) (by decide) hI hJ k0_0 k0_1
      refine Ex.ite (fun c37 => ?_) (fun c37 => ?_)
      ·
        have c37 := icc_eq (m := (Int32.toInt x7)) (n := 0) rfl (by decide) c37
        refine Ex.cb (sX6_isSignNow_5 fu hfu 45 g8 L9 hI hJ) (fun x38 g39 L40 hq42 => ?_)
        obtain ⟨hI, hJ, kk0, kk1, rb_⟩ := hq42
        have b43 : 0 ≤ (Int32.toInt x38) ∧ (Int32.toInt x38) ≤ 1 := rb_
        have hI : zI XT g39 := hI
        have hJ : pJ g39 := hJ
        have k0_0 : g39 2 2 = g0 2 2 := kk0.trans k0_0
        have k0_1 : g39 0 13 = g0 0 13 := kk1.trans k0_1
        refine Ex.ite (fun c44 => ?_) (fun c44 => ?_)
        ·
          have c44 := icc_eq (m := (Int32.toInt x38)) (n := 0) rfl (by decide) c44
          exact J75 g39 L40 hI hJ k0_0 k0_1
        ·
          have c44 := icc_neq (m := (Int32.toInt x38)) (n := 0) rfl (by decide) c44
          exact J32 g39 L40 (by omega) (by omega) hI hJ k0_0 k0_1
      ·
        have c37 := icc_neq (m := (Int32.toInt x7)) (n := 0) rfl (by decide) c37
        exact J32 g8 L9 (by omega) (by omega) hI hJ k0_0 k0_1
  exact lp7 p1 0 g2 L3 (by omega) (by decide) hI hJ k0_0 k0_1
set_option maxHeartbeats 4000000 in
set_option maxRecDepth 100000 in
theorem sX6_readTest_5_L5 (fu : Nat) (hfu : 1180591620717411303424 ≤ fu) (p1 : Int32) (g0 : Nat → Nat → Int32) (L0 : Nat → Nat → Int64) (hI : zI XT g0) (hJ : pJ g0) (hp1 : (2 ≤ (Int32.toInt p1) ∧ (Int32.toInt p1) ≤ 2)) : Ex (fX6_readTest_5 fu (fX6_readExpr_5 fu 4) p1 g0 L0) (fun (r : Unit) (g1 : Nat → Nat → Int32) (L1 : Nat → Nat → Int64) => zI XT g1 ∧ pJ g1 ∧ g1 2 2 = g0 2 2 ∧ g1 0 13 = g0 0 13) := by
  have k0_0 : g0 2 2 = g0 2 2 := rfl
  have k0_1 : g0 0 13 = g0 0 13 := rfl
  unfold fX6_readTest_5
  refine Ex.cb (sX6_readSum_5_L5 fu hfu p1 g0 L0 hI hJ (by omega)) (fun x1 g2 L3 hq5 => ?_)
  obtain ⟨hI, hJ, kk0, kk1⟩ := hq5
  have hI : zI XT g2 := hI
  have hJ : pJ g2 := hJ
  have k0_0 : g2 2 2 = g0 2 2 := kk0.trans k0_0
  have k0_1 : g2 0 13 = g0 0 13 := kk1.trans k0_1
  refine Ex.cb (sX6_isSignNow_5 fu hfu 60 g2 L3 hI hJ) (fun x6 g7 L8 hq10 => ?_)
  obtain ⟨hI, hJ, kk0, kk1, rb_⟩ := hq10
  have b11 : 0 ≤ (Int32.toInt x6) ∧ (Int32.toInt x6) ≤ 1 := rb_
  have hI : zI XT g7 := hI
  have hJ : pJ g7 := hJ
  have k0_0 : g7 2 2 = g0 2 2 := kk0.trans k0_0
  have k0_1 : g7 0 13 = g0 0 13 := kk1.trans k0_1
  have J68 : ∀ (g : Nat → Nat → Int32) (L : Nat → Nat → Int64), zI XT g → pJ g → g 2 2 = g0 2 2 → g 0 13 = g0 0 13 → Ex (fX6_readTest_5_p68 fu (fX6_readExpr_5 fu 4) g L) (fun (r : Unit) (g1 : Nat → Nat → Int32) (L1 : Nat → Nat → Int64) => zI XT g1 ∧ pJ g1 ∧ g1 2 2 = g0 2 2 ∧ g1 0 13 = g0 0 13) := by
    intro g L hI hJ k0_0 k0_1
    unfold fX6_readTest_5_p68
    exact Ex.ret ⟨hI, hJ, k0_0, k0_1⟩
  refine Ex.ite (fun c12 => ?_) (fun c12 => ?_)
  ·
    have c12 := icc_eq (m := (Int32.toInt x6)) (n := 0) rfl (by decide) c12
    refine Ex.cb (sX6_isSignNow_5 fu hfu 61 g7 L8 hI hJ) (fun x13 g14 L15 hq17 => ?_)
    obtain ⟨hI, hJ, kk0, kk1, rb_⟩ := hq17
    have b18 : 0 ≤ (Int32.toInt x13) ∧ (Int32.toInt x13) ≤ 1 := rb_
    have hI : zI XT g14 := hI
    have hJ : pJ g14 := hJ
    have k0_0 : g14 2 2 = g0 2 2 := kk0.trans k0_0
    have k0_1 : g14 0 13 = g0 0 13 := kk1.trans k0_1
    refine Ex.ite (fun c19 => ?_) (fun c19 => ?_)
    ·
      have c19 := icc_eq (m := (Int32.toInt x13)) (n := 0) rfl (by decide) c19
      exact J68 g14 L15 hI hJ k0_0 k0_1
    ·
      have c19 := icc_neq (m := (Int32.toInt x13)) (n := 0) rfl (by decide) c19
      refine Ex.cb (sX6_advance_5 fu hfu g14 L15 hI hJ) (fun x20 g21 L22 hq24 => ?_)
      obtain ⟨hI, hJ, kk0, kk1⟩ := hq24
      have hI : zI XT g21 := hI
      have hJ : pJ g21 := hJ
      have k0_0 : g21 2 2 = g0 2 2 := kk0.trans k0_0
      have k0_1 : g21 0 13 = g0 0 13 := kk1.trans k0_1
      refine Ex.cb (sX6_readSum_5_L5 fu hfu p1 g21 L22 hI hJ (by omega)) (fun x25 g26 L27 hq29 => ?_)
      obtain ⟨hI, hJ, kk0, kk1⟩ := hq29
      have hI : zI XT g26 := hI
      have hJ : pJ g26 := hJ
      have k0_0 : g26 2 2 = g0 2 2 := kk0.trans k0_0
      have k0_1 : g26 0 13 = g0 0 13 := kk1.trans k0_1
      refine Ex.cb (sX8_add_4 fu hfu (-12) g26 L27 hI hJ) (fun x30 g31 L32 hq34 => ?_)
      obtain ⟨hI, hJ, kk0, kk1⟩ := hq34
      have hI : zI XT g31 := hI
      have hJ : pJ g31 := hJ
      have k0_0 : g31 2 2 = g0 2 2 := kk0.trans k0_0
      have k0_1 : g31 0 13 = g0 0 13 := kk1.trans k0_1
      exact J68 g31 L32 hI hJ k0_0 k0_1
  ·
    have c12 := icc_neq (m := (Int32.toInt x6)) (n := 0) rfl (by decide) c12
    refine Ex.cb (sX6_advance_5 fu hfu g7 L8 hI hJ) (fun x35 g36 L37 hq39 => ?_)
    obtain ⟨hI, hJ, kk0, kk1⟩ := hq39
    have hI : zI XT g36 := hI
    have hJ : pJ g36 := hJ
    have k0_0 : g36 2 2 = g0 2 2 := kk0.trans k0_0
    have k0_1 : g36 0 13 = g0 0 13 := kk1.trans k0_1
    refine Ex.cb (sX6_readSum_5_L5 fu hfu p1 g36 L37 hI hJ (by omega)) (fun x40 g41 L42 hq44 => ?_)
    obtain ⟨hI, hJ, kk0, kk1⟩ := hq44
    have hI : zI XT g41 := hI
    have hJ : pJ g41 := hJ
    have k0_0 : g41 2 2 = g0 2 2 := kk0.trans k0_0
    have k0_1 : g41 0 13 = g0 0 13 := kk1.trans k0_1
    refine Ex.cb (sX8_add_4 fu hfu (-11) g41 L42 hI hJ) (fun x45 g46 L47 hq49 => ?_)
    obtain ⟨hI, hJ, kk0, kk1⟩ := hq49
    have hI : zI XT g46 := hI
    have hJ : pJ g46 := hJ
    have k0_0 : g46 2 2 = g0 2 2 := kk0.trans k0_0
    have k0_1 : g46 0 13 = g0 0 13 := kk1.trans k0_1
    exact J68 g46 L47 hI hJ k0_0 k0_1
set_option maxHeartbeats 4000000 in
set_option maxRecDepth 100000 in
theorem sX6_readNot_5_L5 (fu : Nat) (hfu : 1180591620717411303424 ≤ fu) (p1 : Int32) (g0 : Nat → Nat → Int32) (L0 : Nat → Nat → Int64) (hI : zI XT g0) (hJ : pJ g0) (hp1 : (2 ≤ (Int32.toInt p1) ∧ (Int32.toInt p1) ≤ 2)) : Ex (fX6_readNot_5 fu (fX6_readExpr_5 fu 4) p1 g0 L0) (fun (r : Unit) (g1 : Nat → Nat → Int32) (L1 : Nat → Nat → Int64) => zI XT g1 ∧ pJ g1 ∧ g1 2 2 = g0 2 2 ∧ g1 0 13 = g0 0 13) := by
  have k0_0 : g0 2 2 = g0 2 2 := rfl
  have k0_1 : g0 0 13 = g0 0 13 := rfl
  unfold fX6_readNot_5
  have lp2 : ∀ (v1 : Int32) (v2 : Int32) (g : Nat → Nat → Int32) (L : Nat → Nat → Int64), (2 ≤ (Int32.toInt v1) ∧ (Int32.toInt v1) ≤ 2) → (0 ≤ (Int32.toInt v2) ∧ (Int32.toInt v2) ≤ 6) → zI XT g → pJ g → g 2 2 = g0 2 2 → g 0 13 = g0 0 13 → Ex (fX6_readNot_5_l2 fu (fX6_readExpr_5 fu 4) v1 v2 g L) (fun (r : Unit) (g1 : Nat → Nat → Int32) (L1 : Nat → Nat → Int64) => zI XT g1 ∧ pJ g1 ∧ g1 2 2 = g0 2 2 ∧ g1 0 13 = g0 0 13) := by
    intro v1 v2 g L hb_v1 hb_v2 hI hJ k0_0 k0_1
    unfold fX6_readNot_5_l2
    refine Ex.loop (fun v => ((2 ≤ (Int32.toInt v1) ∧ (Int32.toInt v1) ≤ 2)) ∧ ((0 ≤ (Int32.toInt (v.1)) ∧ (Int32.toInt (v.1)) ≤ 6)) ∧ (zI XT (v.2.1)) ∧ (pJ (v.2.1)) ∧ ((v.2.1) 2 2 = g0 2 2) ∧ ((v.2.1) 0 13 = g0 0 13)) (fun v => 7 - (Int32.toInt (v.1))) (by omega) (by show 7 - (Int32.toInt v2) < (fu : Int); omega) ⟨hb_v1, hb_v2, hI, hJ, k0_0, k0_1⟩ (fun k2 v hv ih2 => ?_)
    obtain ⟨v2, g, L⟩ := v
    obtain ⟨hb_v1, hb_v2, hI, hJ, k0_0, k0_1⟩ := hv
    have hb_v1 : (2 ≤ (Int32.toInt v1) ∧ (Int32.toInt v1) ≤ 2) := hb_v1
    have hb_v2 : (0 ≤ (Int32.toInt v2) ∧ (Int32.toInt v2) ≤ 6) := hb_v2
    have hI : zI XT g := hI
    have hJ : pJ g := hJ
    have k0_0 : g 2 2 = g0 2 2 := k0_0
    have k0_1 : g 0 13 = g0 0 13 := k0_1
    have ih2 : ∀ v' : Int32 × (Nat → Nat → Int32) × (Nat → Nat → Int64), (((2 ≤ (Int32.toInt v1) ∧ (Int32.toInt v1) ≤ 2)) ∧ ((0 ≤ (Int32.toInt (v'.1)) ∧ (Int32.toInt (v'.1)) ≤ 6)) ∧ (zI XT (v'.2.1)) ∧ (pJ (v'.2.1)) ∧ ((v'.2.1) 2 2 = g0 2 2) ∧ ((v'.2.1) 0 13 = g0 0 13)) → 7 - (Int32.toInt (v'.1)) < 7 - (Int32.toInt v2) → 0 < 7 - (Int32.toInt v2) → Ex (k2 v') (fun (r : Unit) (g1 : Nat → Nat → Int32) (L1 : Nat → Nat → Int64) => zI XT g1 ∧ pJ g1 ∧ g1 2 2 = g0 2 2 ∧ g1 0 13 = g0 0 13) := ih2
    show Ex (fX6_readNot_5_s2 fu (fX6_readExpr_5 fu 4) v1 k2 v2 g L) (fun (r : Unit) (g1 : Nat → Nat → Int32) (L1 : Nat → Nat → Int64) => zI XT g1 ∧ pJ g1 ∧ g1 2 2 = g0 2 2 ∧ g1 0 13 = g0 0 13)
    unfold fX6_readNot_5_s2
    have J27 : ∀ (v1 : Int32) (v2 : Int32) (g : Nat → Nat → Int32) (L : Nat → Nat → Int64), (2 ≤ (Int32.toInt v1) ∧ (Int32.toInt v1) ≤ 2) → (0 ≤ (Int32.toInt v2) ∧ (Int32.toInt v2) ≤ 6) → zI XT g → pJ g → g 2 2 = g0 2 2 → g 0 13 = g0 0 13 → Ex (fX6_readNot_5_p27 fu (fX6_readExpr_5 fu 4) v1 v2 g L) (fun (r : Unit) (g1 : Nat → Nat → Int32) (L1 : Nat → Nat → Int64) => zI XT g1 ∧ pJ g1 ∧ g1 2 2 = g0 2 2 ∧ g1 0 13 = g0 0 13) := by
      intro v1 v2 g L hb_v1 hb_v2 hI hJ k0_0 k0_1
      unfold fX6_readNot_5_p27
      refine Ex.cb (sX6_isWord_5_not fu hfu g L hI hJ) (fun x1 g2 L3 hq5 => ?_)
      obtain ⟨hI, hJ, kk0, kk1, rb_⟩ := hq5
      have b6 : 0 ≤ (Int32.toInt x1) ∧ (Int32.toInt x1) ≤ 1 := rb_
      have hI : zI XT g2 := hI
      have hJ : pJ g2 := hJ
      have k0_0 : g2 2 2 = g0 2 2 := kk0.trans k0_0
      have k0_1 : g2 0 13 = g0 0 13 := kk1.trans k0_1
      have J47 : ∀ (v1 : Int32) (v2 : Int32) (g : Nat → Nat → Int32) (L : Nat → Nat → Int64), (2 ≤ (Int32.toInt v1) ∧ (Int32.toInt v1) ≤ 2) → (0 ≤ (Int32.toInt v2) ∧ (Int32.toInt v2) ≤ 6) → zI XT g → pJ g → g 2 2 = g0 2 2 → g 0 13 = g0 0 13 → Ex (fX6_readNot_5_p47 fu (fX6_readExpr_5 fu 4) v1 v2 g L) (fun (r : Unit) (g1 : Nat → Nat → Int32) (L1 : Nat → Nat → Int64) => zI XT g1 ∧ pJ g1 ∧ g1 2 2 = g0 2 2 ∧ g1 0 13 = g0 0 13) := by
        intro v1 v2 g L hb_v1 hb_v2 hI hJ k0_0 k0_1
        unfold fX6_readNot_5_p47
        refine Ex.cb (sX6_readTest_5_L5 fu hfu v1 g L hI hJ (by omega)) (fun x7 g8 L9 hq11 => ?_)
        obtain ⟨hI, hJ, kk0, kk1⟩ := hq11
        have hI : zI XT g8 := hI
        have hJ : pJ g8 := hJ
        have k0_0 : g8 2 2 = g0 2 2 := kk0.trans k0_0
        have k0_1 : g8 0 13 = g0 0 13 := kk1.trans k0_1
        have lp54 : ∀ (v2 : Int32) (v3 : Int32) (g : Nat → Nat → Int32) (L : Nat → Nat → Int64), (0 ≤ (Int32.toInt v2) ∧ (Int32.toInt v2) ≤ 6) → (0 ≤ (Int32.toInt v3) ∧ (Int32.toInt v3) ≤ 6) → zI XT g → pJ g → g 2 2 = g0 2 2 → g 0 13 = g0 0 13 → Ex (fX6_readNot_5_l54 fu (fX6_readExpr_5 fu 4) v2 v3 g L) (fun (r : Unit) (g1 : Nat → Nat → Int32) (L1 : Nat → Nat → Int64) => zI XT g1 ∧ pJ g1 ∧ g1 2 2 = g0 2 2 ∧ g1 0 13 = g0 0 13) := by
          intro v2 v3 g L hb_v2 hb_v3 hI hJ k0_0 k0_1
          unfold fX6_readNot_5_l54
          refine Ex.loop (fun v => ((0 ≤ (Int32.toInt v2) ∧ (Int32.toInt v2) ≤ 6)) ∧ ((0 ≤ (Int32.toInt (v.1)) ∧ (Int32.toInt (v.1)) ≤ 6)) ∧ (zI XT (v.2.1)) ∧ (pJ (v.2.1)) ∧ ((v.2.1) 2 2 = g0 2 2) ∧ ((v.2.1) 0 13 = g0 0 13)) (fun v => 7 - (Int32.toInt (v.1))) (by omega) (by show 7 - (Int32.toInt v3) < (fu : Int); omega) ⟨hb_v2, hb_v3, hI, hJ, k0_0, k0_1⟩ (fun k54 v hv ih54 => ?_)
          obtain ⟨v3, g, L⟩ := v
          obtain ⟨hb_v2, hb_v3, hI, hJ, k0_0, k0_1⟩ := hv
          have hb_v2 : (0 ≤ (Int32.toInt v2) ∧ (Int32.toInt v2) ≤ 6) := hb_v2
          have hb_v3 : (0 ≤ (Int32.toInt v3) ∧ (Int32.toInt v3) ≤ 6) := hb_v3
          have hI : zI XT g := hI
          have hJ : pJ g := hJ
          have k0_0 : g 2 2 = g0 2 2 := k0_0
          have k0_1 : g 0 13 = g0 0 13 := k0_1
          have ih54 : ∀ v' : Int32 × (Nat → Nat → Int32) × (Nat → Nat → Int64), (((0 ≤ (Int32.toInt v2) ∧ (Int32.toInt v2) ≤ 6)) ∧ ((0 ≤ (Int32.toInt (v'.1)) ∧ (Int32.toInt (v'.1)) ≤ 6)) ∧ (zI XT (v'.2.1)) ∧ (pJ (v'.2.1)) ∧ ((v'.2.1) 2 2 = g0 2 2) ∧ ((v'.2.1) 0 13 = g0 0 13)) → 7 - (Int32.toInt (v'.1)) < 7 - (Int32.toInt v3) → 0 < 7 - (Int32.toInt v3) → Ex (k54 v') (fun (r : Unit) (g1 : Nat → Nat → Int32) (L1 : Nat → Nat → Int64) => zI XT g1 ∧ pJ g1 ∧ g1 2 2 = g0 2 2 ∧ g1 0 13 = g0 0 13) := ih54
          show Ex (fX6_readNot_5_s54 fu (fX6_readExpr_5 fu 4) v2 k54 v3 g L) (fun (r : Unit) (g1 : Nat → Nat → Int32) (L1 : Nat → Nat → Int64) => zI XT g1 ∧ pJ g1 ∧ g1 2 2 = g0 2 2 ∧ g1 0 13 = g0 0 13)
          unfold fX6_readNot_5_s54
          refine Ex.ite (fun c12 => ?_) (fun c12 => ?_)
          ·
            have c12 := icc_le (m := (Int32.toInt v2)) (n := (Int32.toInt v3)) rfl rfl c12
            exact Ex.ret ⟨hI, hJ, k0_0, k0_1⟩
          ·
            have c12 := icc_nle (m := (Int32.toInt v2)) (n := (Int32.toInt v3)) rfl rfl c12
            refine Ex.cb (sX8_add_4 fu hfu (-15) g L hI hJ) (fun x13 g14 L15 hq17 => ?_)
            obtain ⟨hI, hJ, kk0, kk1⟩ := hq17
            have hI : zI XT g14 := hI
            have hJ : pJ g14 := hJ
            have k0_0 : g14 2 2 = g0 2 2 := kk0.trans k0_0
            have k0_1 : g14 0 13 = g0 0 13 := kk1.trans k0_1
            generalize z18q : (v3 + 1) = z18
            have e19 : (Int32.toInt z18) = (Int32.toInt v3) + 1 := by rw [← z18q]; exact ic_addc rfl (by decide) (by omega) (by omega)
            exact ih54 (z18, g14, L15) ⟨(show (0 ≤ (Int32.toInt v2) ∧ (Int32.toInt v2) ≤ 6) from by omega), (show (0 ≤ (Int32.toInt z18) ∧ (Int32.toInt z18) ≤ 6) from by omega), hI, hJ, k0_0, k0_1⟩ (by show 7 - (Int32.toInt z18) < _; omega) (by omega)
        exact lp54 v2 0 g8 L9 (by omega) (by decide) hI hJ k0_0 k0_1
      refine Ex.ite (fun c20 => ?_) (fun c20 => ?_)
      ·
        have c20 := icc_eq (m := (Int32.toInt x1)) (n := 0) rfl (by decide) c20
        exact J47 v1 v2 g2 L3 (by omega) (by omega) hI hJ k0_0 k0_1
      ·
        have c20 := icc_neq (m := (Int32.toInt x1)) (n := 0) rfl (by decide) c20
        refine Ex.ite (fun c21 => ?_) (fun c21 => ?_)
        ·
          have c21 := icc_lt (m := (Int32.toInt v2)) (n := 6) rfl (by decide) c21
          exact J47 v1 v2 g2 L3 (by omega) (by omega) hI hJ k0_0 k0_1
        ·
          have c21 := icc_nlt (m := (Int32.toInt v2)) (n := 6) rfl (by decide) c21
          refine Ex.cb (sX6_refuse_5 fu hfu 2 g2 L3 hI hJ) (fun x22 g23 L24 hq26 => ?_)
          obtain ⟨hI, hJ, kk0, kk1⟩ := hq26
          have hI : zI XT g23 := hI
          have hJ : pJ g23 := hJ
          have k0_0 : g23 2 2 = g0 2 2 := kk0.trans k0_0
          have k0_1 : g23 0 13 = g0 0 13 := kk1.trans k0_1
          exact J47 v1 v2 g23 L24 (by omega) (by omega) hI hJ k0_0 k0_1
    refine Ex.ite (fun c27 => ?_) (fun c27 => ?_)
    ·
      have c27 := icc_le (m := 6) (n := (Int32.toInt v2)) (by decide) rfl c27
      exact J27 v1 v2 g L (by omega) (by omega) hI hJ k0_0 k0_1
    ·
      have c27 := icc_nle (m := 6) (n := (Int32.toInt v2)) (by decide) rfl c27
      refine Ex.cb (sX6_isWord_5_not fu hfu g L hI hJ) (fun x28 g29 L30 hq32 => ?_)
      obtain ⟨hI, hJ, kk0, kk1, rb_⟩ := hq32
      have b33 : 0 ≤ (Int32.toInt x28) ∧ (Int32.toInt x28) ≤ 1 := rb_
      have hI : zI XT g29 := hI
      have hJ : pJ g29 := hJ
      have k0_0 : g29 2 2 = g0 2 2 := kk0.trans k0_0
      have k0_1 : g29 0 13 = g0 0 13 := kk1.trans k0_1
      refine Ex.ite (fun c34 => ?_) (fun c34 => ?_)
      ·
        have c34 := icc_eq (m := (Int32.toInt x28)) (n := 0) rfl (by decide) c34
        exact J27 v1 v2 g29 L30 (by omega) (by omega) hI hJ k0_0 k0_1
      ·
        have c34 := icc_neq (m := (Int32.toInt x28)) (n := 0) rfl (by decide) c34
        generalize z35q : (v2 + 1) = z35
        have e36 : (Int32.toInt z35) = (Int32.toInt v2) + 1 := by rw [← z35q]; exact ic_addc rfl (by decide) (by omega) (by omega)
        refine Ex.cb (sX6_advance_5 fu hfu g29 L30 hI hJ) (fun x37 g38 L39 hq41 => ?_)
        obtain ⟨hI, hJ, kk0, kk1⟩ := hq41
        have hI : zI XT g38 := hI
        have hJ : pJ g38 := hJ
        have k0_0 : g38 2 2 = g0 2 2 := kk0.trans k0_0
        have k0_1 : g38 0 13 = g0 0 13 := kk1.trans k0_1
        exact ih2 (z35, g38, L39) ⟨(show (2 ≤ (Int32.toInt v1) ∧ (Int32.toInt v1) ≤ 2) from by omega), (show (0 ≤ (Int32.toInt z35) ∧ (Int32.toInt z35) ≤ 6) from by omega), hI, hJ, k0_0, k0_1⟩ (by show 7 - (Int32.toInt z35) < _; omega) (by omega)
  exact lp2 p1 0 g0 L0 (by omega) (by decide) hI hJ k0_0 k0_1
set_option maxHeartbeats 4000000 in
set_option maxRecDepth 100000 in
theorem sX6_readAnd_5_L5 (fu : Nat) (hfu : 1180591620717411303424 ≤ fu) (p1 : Int32) (g0 : Nat → Nat → Int32) (L0 : Nat → Nat → Int64) (hI : zI XT g0) (hJ : pJ g0) (hp1 : (2 ≤ (Int32.toInt p1) ∧ (Int32.toInt p1) ≤ 2)) : Ex (fX6_readAnd_5 fu (fX6_readExpr_5 fu 4) p1 g0 L0) (fun (r : Unit) (g1 : Nat → Nat → Int32) (L1 : Nat → Nat → Int64) => zI XT g1 ∧ pJ g1 ∧ g1 2 2 = g0 2 2 ∧ g1 0 13 = g0 0 13) := by
  have k0_0 : g0 2 2 = g0 2 2 := rfl
  have k0_1 : g0 0 13 = g0 0 13 := rfl
  unfold fX6_readAnd_5
  refine Ex.cb (sX6_readNot_5_L5 fu hfu p1 g0 L0 hI hJ (by omega)) (fun x1 g2 L3 hq5 => ?_)
  obtain ⟨hI, hJ, kk0, kk1⟩ := hq5
  have hI : zI XT g2 := hI
  have hJ : pJ g2 := hJ
  have k0_0 : g2 2 2 = g0 2 2 := kk0.trans k0_0
  have k0_1 : g2 0 13 = g0 0 13 := kk1.trans k0_1
  have lp7 : ∀ (v1 : Int32) (v2 : Int32) (g : Nat → Nat → Int32) (L : Nat → Nat → Int64), (2 ≤ (Int32.toInt v1) ∧ (Int32.toInt v1) ≤ 2) → (0 ≤ (Int32.toInt v2) ∧ (Int32.toInt v2) ≤ 700) → zI XT g → pJ g → g 2 2 = g0 2 2 → g 0 13 = g0 0 13 → Ex (fX6_readAnd_5_l7 fu (fX6_readExpr_5 fu 4) v1 v2 g L) (fun (r : Unit) (g1 : Nat → Nat → Int32) (L1 : Nat → Nat → Int64) => zI XT g1 ∧ pJ g1 ∧ g1 2 2 = g0 2 2 ∧ g1 0 13 = g0 0 13) := by
    intro v1 v2 g L hb_v1 hb_v2 hI hJ k0_0 k0_1
    unfold fX6_readAnd_5_l7
    refine Ex.loop (fun v => ((2 ≤ (Int32.toInt v1) ∧ (Int32.toInt v1) ≤ 2)) ∧ ((0 ≤ (Int32.toInt (v.1)) ∧ (Int32.toInt (v.1)) ≤ 700)) ∧ (zI XT (v.2.1)) ∧ (pJ (v.2.1)) ∧ ((v.2.1) 2 2 = g0 2 2) ∧ ((v.2.1) 0 13 = g0 0 13)) (fun v => 701 - (Int32.toInt (v.1))) (by omega) (by show 701 - (Int32.toInt v2) < (fu : Int); omega) ⟨hb_v1, hb_v2, hI, hJ, k0_0, k0_1⟩ (fun k7 v hv ih7 => ?_)
    obtain ⟨v2, g, L⟩ := v
    obtain ⟨hb_v1, hb_v2, hI, hJ, k0_0, k0_1⟩ := hv
    have hb_v1 : (2 ≤ (Int32.toInt v1) ∧ (Int32.toInt v1) ≤ 2) := hb_v1
    have hb_v2 : (0 ≤ (Int32.toInt v2) ∧ (Int32.toInt v2) ≤ 700) := hb_v2
    have hI : zI XT g := hI
    have hJ : pJ g := hJ
    have k0_0 : g 2 2 = g0 2 2 := k0_0
    have k0_1 : g 0 13 = g0 0 13 := k0_1
    have ih7 : ∀ v' : Int32 × (Nat → Nat → Int32) × (Nat → Nat → Int64), (((2 ≤ (Int32.toInt v1) ∧ (Int32.toInt v1) ≤ 2)) ∧ ((0 ≤ (Int32.toInt (v'.1)) ∧ (Int32.toInt (v'.1)) ≤ 700)) ∧ (zI XT (v'.2.1)) ∧ (pJ (v'.2.1)) ∧ ((v'.2.1) 2 2 = g0 2 2) ∧ ((v'.2.1) 0 13 = g0 0 13)) → 701 - (Int32.toInt (v'.1)) < 701 - (Int32.toInt v2) → 0 < 701 - (Int32.toInt v2) → Ex (k7 v') (fun (r : Unit) (g1 : Nat → Nat → Int32) (L1 : Nat → Nat → Int64) => zI XT g1 ∧ pJ g1 ∧ g1 2 2 = g0 2 2 ∧ g1 0 13 = g0 0 13) := ih7
    show Ex (fX6_readAnd_5_s7 fu (fX6_readExpr_5 fu 4) v1 k7 v2 g L) (fun (r : Unit) (g1 : Nat → Nat → Int32) (L1 : Nat → Nat → Int64) => zI XT g1 ∧ pJ g1 ∧ g1 2 2 = g0 2 2 ∧ g1 0 13 = g0 0 13)
    unfold fX6_readAnd_5_s7
    have J50 : ∀ (g : Nat → Nat → Int32) (L : Nat → Nat → Int64), zI XT g → pJ g → g 2 2 = g0 2 2 → g 0 13 = g0 0 13 → Ex (fX6_readAnd_5_p50 fu (fX6_readExpr_5 fu 4) g L) (fun (r : Unit) (g1 : Nat → Nat → Int32) (L1 : Nat → Nat → Int64) => zI XT g1 ∧ pJ g1 ∧ g1 2 2 = g0 2 2 ∧ g1 0 13 = g0 0 13) := by
      intro g L hI hJ k0_0 k0_1
      unfold fX6_readAnd_5_p50
      exact Ex.ret ⟨hI, hJ, k0_0, k0_1⟩
    refine Ex.ite (fun c6 => ?_) (fun c6 => ?_)
    ·
      have c6 := icc_le (m := 700) (n := (Int32.toInt v2)) (by decide) rfl c6
      exact J50 g L hI hJ k0_0 k0_1
    ·
      have c6 := icc_nle (m := 700) (n := (Int32.toInt v2)) (by decide) rfl c6
      refine Ex.cb (sX6_isWord_5_and fu hfu g L hI hJ) (fun x7 g8 L9 hq11 => ?_)
      obtain ⟨hI, hJ, kk0, kk1, rb_⟩ := hq11
      have b12 : 0 ≤ (Int32.toInt x7) ∧ (Int32.toInt x7) ≤ 1 := rb_
      have hI : zI XT g8 := hI
      have hJ : pJ g8 := hJ
      have k0_0 : g8 2 2 = g0 2 2 := kk0.trans k0_0
      have k0_1 : g8 0 13 = g0 0 13 := kk1.trans k0_1
      refine Ex.ite (fun c13 => ?_) (fun c13 => ?_)
      ·
        have c13 := icc_eq (m := (Int32.toInt x7)) (n := 0) rfl (by decide) c13
        exact J50 g8 L9 hI hJ k0_0 k0_1
      ·
        have c13 := icc_neq (m := (Int32.toInt x7)) (n := 0) rfl (by decide) c13
        refine Ex.cb (sX6_advance_5 fu hfu g8 L9 hI hJ) (fun x14 g15 L16 hq18 => ?_)
        obtain ⟨hI, hJ, kk0, kk1⟩ := hq18
        have hI : zI XT g15 := hI
        have hJ : pJ g15 := hJ
        have k0_0 : g15 2 2 = g0 2 2 := kk0.trans k0_0
        have k0_1 : g15 0 13 = g0 0 13 := kk1.trans k0_1
        refine Ex.cb (sX6_readNot_5_L5 fu hfu v1 g15 L16 hI hJ (by omega)) (fun x19 g20 L21 hq23 => ?_)
        obtain ⟨hI, hJ, kk0, kk1⟩ := hq23
        have hI : zI XT g20 := hI
        have hJ : pJ g20 := hJ
        have k0_0 : g20 2 2 = g0 2 2 := kk0.trans k0_0
        have k0_1 : g20 0 13 = g0 0 13 := kk1.trans k0_1
        refine Ex.cb (sX8_add_4 fu hfu (-13) g20 L21 hI hJ) (fun x24 g25 L26 hq28 => ?_)
        obtain ⟨hI, hJ, kk0, kk1⟩ := hq28
        have hI : zI XT g25 := hI
        have hJ : pJ g25 := hJ
        have k0_0 : g25 2 2 = g0 2 2 := kk0.trans k0_0
        have k0_1 : g25 0 13 = g0 0 13 := kk1.trans k0_1
        generalize z29q : (v2 + 1) = z29
        have e30 : (Int32.toInt z29) = (Int32.toInt v2) + 1 := by rw [← z29q]; exact ic_addc rfl (by decide) (by omega) (by omega)
        exact ih7 (z29, g25, L26) ⟨(show (2 ≤ (Int32.toInt v1) ∧ (Int32.toInt v1) ≤ 2) from by omega), (show (0 ≤ (Int32.toInt z29) ∧ (Int32.toInt z29) ≤ 700) from by omega), hI, hJ, k0_0, k0_1⟩ (by show 701 - (Int32.toInt z29) < _; omega) (by omega)
  exact lp7 p1 0 g2 L3 (by omega) (by decide) hI hJ k0_0 k0_1
set_option maxHeartbeats 4000000 in
set_option maxRecDepth 100000 in
theorem sX6_readExpr_5_L5 (fu : Nat) (hfu : 1180591620717411303424 ≤ fu) (p1 : Int32) (g0 : Nat → Nat → Int32) (L0 : Nat → Nat → Int64) (hI : zI XT g0) (hJ : pJ g0) (hp1 : (2 ≤ (Int32.toInt p1) ∧ (Int32.toInt p1) ≤ 2)) : Ex (fX6_readExpr_5 fu 5 p1 g0 L0) (fun (r : Unit) (g1 : Nat → Nat → Int32) (L1 : Nat → Nat → Int64) => zI XT g1 ∧ pJ g1 ∧ g1 2 2 = g0 2 2 ∧ g1 0 13 = g0 0 13) := by
  have k0_0 : g0 2 2 = g0 2 2 := rfl
  have k0_1 : g0 0 13 = g0 0 13 := rfl
  rw [fX6_readExpr_5_succ]
  unfold fX6_readExpr_5B
  have J35 : ∀ (v1 : Int32) (g : Nat → Nat → Int32) (L : Nat → Nat → Int64), (2 ≤ (Int32.toInt v1) ∧ (Int32.toInt v1) ≤ 2) → zI XT g → pJ g → g 2 2 = g0 2 2 → g 0 13 = g0 0 13 → Ex (fX6_readExpr_5_p35 fu (fX6_readExpr_5 fu 4) v1 g L) (fun (r : Unit) (g1 : Nat → Nat → Int32) (L1 : Nat → Nat → Int64) => zI XT g1 ∧ pJ g1 ∧ g1 2 2 = g0 2 2 ∧ g1 0 13 = g0 0 13) := by
    intro v1 g L hb_v1 hI hJ k0_0 k0_1
    unfold fX6_readExpr_5_p35
    refine Ex.cb (sX6_readAnd_5_L5 fu hfu v1 g L hI hJ (by omega)) (fun x1 g2 L3 hq5 => ?_)
    obtain ⟨hI, hJ, kk0, kk1⟩ := hq5
    have hI : zI XT g2 := hI
    have hJ : pJ g2 := hJ
    have k0_0 : g2 2 2 = g0 2 2 := kk0.trans k0_0
    have k0_1 : g2 0 13 = g0 0 13 := kk1.trans k0_1
    have lp42 : ∀ (v1 : Int32) (v2 : Int32) (g : Nat → Nat → Int32) (L : Nat → Nat → Int64), (2 ≤ (Int32.toInt v1) ∧ (Int32.toInt v1) ≤ 2) → (0 ≤ (Int32.toInt v2) ∧ (Int32.toInt v2) ≤ 700) → zI XT g → pJ g → g 2 2 = g0 2 2 → g 0 13 = g0 0 13 → Ex (fX6_readExpr_5_l42 fu (fX6_readExpr_5 fu 4) v1 v2 g L) (fun (r : Unit) (g1 : Nat → Nat → Int32) (L1 : Nat → Nat → Int64) => zI XT g1 ∧ pJ g1 ∧ g1 2 2 = g0 2 2 ∧ g1 0 13 = g0 0 13) := by
      intro v1 v2 g L hb_v1 hb_v2 hI hJ k0_0 k0_1
      unfold fX6_readExpr_5_l42
      refine Ex.loop (fun v => ((2 ≤ (Int32.toInt v1) ∧ (Int32.toInt v1) ≤ 2)) ∧ ((0 ≤ (Int32.toInt (v.1)) ∧ (Int32.toInt (v.1)) ≤ 700)) ∧ (zI XT (v.2.1)) ∧ (pJ (v.2.1)) ∧ ((v.2.1) 2 2 = g0 2 2) ∧ ((v.2.1) 0 13 = g0 0 13)) (fun v => 701 - (Int32.toInt (v.1))) (by omega) (by show 701 - (Int32.toInt v2) < (fu : Int); omega) ⟨hb_v1, hb_v2, hI, hJ, k0_0, k0_1⟩ (fun k42 v hv ih42 => ?_)
      obtain ⟨v2, g, L⟩ := v
      obtain ⟨hb_v1, hb_v2, hI, hJ, k0_0, k0_1⟩ := hv
      have hb_v1 : (2 ≤ (Int32.toInt v1) ∧ (Int32.toInt v1) ≤ 2) := hb_v1
      have hb_v2 : (0 ≤ (Int32.toInt v2) ∧ (Int32.toInt v2) ≤ 700) := hb_v2
      have hI : zI XT g := hI
      have hJ : pJ g := hJ
      have k0_0 : g 2 2 = g0 2 2 := k0_0
      have k0_1 : g 0 13 = g0 0 13 := k0_1
      have ih42 : ∀ v' : Int32 × (Nat → Nat → Int32) × (Nat → Nat → Int64), (((2 ≤ (Int32.toInt v1) ∧ (Int32.toInt v1) ≤ 2)) ∧ ((0 ≤ (Int32.toInt (v'.1)) ∧ (Int32.toInt (v'.1)) ≤ 700)) ∧ (zI XT (v'.2.1)) ∧ (pJ (v'.2.1)) ∧ ((v'.2.1) 2 2 = g0 2 2) ∧ ((v'.2.1) 0 13 = g0 0 13)) → 701 - (Int32.toInt (v'.1)) < 701 - (Int32.toInt v2) → 0 < 701 - (Int32.toInt v2) → Ex (k42 v') (fun (r : Unit) (g1 : Nat → Nat → Int32) (L1 : Nat → Nat → Int64) => zI XT g1 ∧ pJ g1 ∧ g1 2 2 = g0 2 2 ∧ g1 0 13 = g0 0 13) := ih42
      show Ex (fX6_readExpr_5_s42 fu (fX6_readExpr_5 fu 4) v1 k42 v2 g L) (fun (r : Unit) (g1 : Nat → Nat → Int32) (L1 : Nat → Nat → Int64) => zI XT g1 ∧ pJ g1 ∧ g1 2 2 = g0 2 2 ∧ g1 0 13 = g0 0 13)
      unfold fX6_readExpr_5_s42
      have J85 : ∀ (g : Nat → Nat → Int32) (L : Nat → Nat → Int64), zI XT g → pJ g → g 2 2 = g0 2 2 → g 0 13 = g0 0 13 → Ex (fX6_readExpr_5_p85 fu (fX6_readExpr_5 fu 4) g L) (fun (r : Unit) (g1 : Nat → Nat → Int32) (L1 : Nat → Nat → Int64) => zI XT g1 ∧ pJ g1 ∧ g1 2 2 = g0 2 2 ∧ g1 0 13 = g0 0 13) := by
        intro g L hI hJ k0_0 k0_1
        unfold fX6_readExpr_5_p85
        exact Ex.ret ⟨hI, hJ, k0_0, k0_1⟩
      refine Ex.ite (fun c6 => ?_) (fun c6 => ?_)
      ·
        have c6 := icc_le (m := 700) (n := (Int32.toInt v2)) (by decide) rfl c6
        exact J85 g L hI hJ k0_0 k0_1
      ·
        have c6 := icc_nle (m := 700) (n := (Int32.toInt v2)) (by decide) rfl c6
        refine Ex.cb (sX6_isWord_5_or fu hfu g L hI hJ) (fun x7 g8 L9 hq11 => ?_)
        obtain ⟨hI, hJ, kk0, kk1, rb_⟩ := hq11
        have b12 : 0 ≤ (Int32.toInt x7) ∧ (Int32.toInt x7) ≤ 1 := rb_
        have hI : zI XT g8 := hI
        have hJ : pJ g8 := hJ
        have k0_0 : g8 2 2 = g0 2 2 := kk0.trans k0_0
        have k0_1 : g8 0 13 = g0 0 13 := kk1.trans k0_1
        refine Ex.ite (fun c13 => ?_) (fun c13 => ?_)
        ·
          have c13 := icc_eq (m := (Int32.toInt x7)) (n := 0) rfl (by decide) c13
          exact J85 g8 L9 hI hJ k0_0 k0_1
        ·
          have c13 := icc_neq (m := (Int32.toInt x7)) (n := 0) rfl (by decide) c13
          refine Ex.cb (sX6_advance_5 fu hfu g8 L9 hI hJ) (fun x14 g15 L16 hq18 => ?_)
          obtain ⟨hI, hJ, kk0, kk1⟩ := hq18
          have hI : zI XT g15 := hI
          have hJ : pJ g15 := hJ
          have k0_0 : g15 2 2 = g0 2 2 := kk0.trans k0_0
          have k0_1 : g15 0 13 = g0 0 13 := kk1.trans k0_1
          refine Ex.cb (sX6_readAnd_5_L5 fu hfu v1 g15 L16 hI hJ (by omega)) (fun x19 g20 L21 hq23 => ?_)
          obtain ⟨hI, hJ, kk0, kk1⟩ := hq23
          have hI : zI XT g20 := hI
          have hJ : pJ g20 := hJ
          have k0_0 : g20 2 2 = g0 2 2 := kk0.trans k0_0
          have k0_1 : g20 0 13 = g0 0 13 := kk1.trans k0_1
          refine Ex.cb (sX8_add_4 fu hfu (-14) g20 L21 hI hJ) (fun x24 g25 L26 hq28 => ?_)
          obtain ⟨hI, hJ, kk0, kk1⟩ := hq28
          have hI : zI XT g25 := hI
          have hJ : pJ g25 := hJ
          have k0_0 : g25 2 2 = g0 2 2 := kk0.trans k0_0
          have k0_1 : g25 0 13 = g0 0 13 := kk1.trans k0_1
          generalize z29q : (v2 + 1) = z29
          have e30 : (Int32.toInt z29) = (Int32.toInt v2) + 1 := by rw [← z29q]; exact ic_addc rfl (by decide) (by omega) (by omega)
          exact ih42 (z29, g25, L26) ⟨(show (2 ≤ (Int32.toInt v1) ∧ (Int32.toInt v1) ≤ 2) from by omega), (show (0 ≤ (Int32.toInt z29) ∧ (Int32.toInt z29) ≤ 700) from by omega), hI, hJ, k0_0, k0_1⟩ (by show 701 - (Int32.toInt z29) < _; omega) (by omega)
    exact lp42 v1 0 g2 L3 (by omega) (by decide) hI hJ k0_0 k0_1
  refine Ex.ite (fun c31 => ?_) (fun c31 => ?_)
  ·
    have c31 := icc_le (m := (Int32.toInt p1)) (n := 5) rfl (by decide) c31
    exact J35 p1 g0 L0 (by omega) hI hJ k0_0 k0_1
  ·
    have c31 := icc_nle (m := (Int32.toInt p1)) (n := 5) rfl (by decide) c31
    omega
set_option maxHeartbeats 4000000 in
set_option maxRecDepth 100000 in
theorem sX6_readPart_5_L6 (fu : Nat) (hfu : 1180591620717411303424 ≤ fu) (p1 : Int32) (g0 : Nat → Nat → Int32) (L0 : Nat → Nat → Int64) (hI : zI XT g0) (hJ : pJ g0) (hp1 : (1 ≤ (Int32.toInt p1) ∧ (Int32.toInt p1) ≤ 1)) : Ex (fX6_readPart_5 fu (fX6_readExpr_5 fu 5) p1 g0 L0) (fun (r : Unit) (g1 : Nat → Nat → Int32) (L1 : Nat → Nat → Int64) => zI XT g1 ∧ pJ g1 ∧ g1 2 2 = g0 2 2 ∧ g1 0 13 = g0 0 13) := by
  have k0_0 : g0 2 2 = g0 2 2 := rfl
  have k0_1 : g0 0 13 = g0 0 13 := rfl
  unfold fX6_readPart_5
  have J111 : ∀ (g : Nat → Nat → Int32) (L : Nat → Nat → Int64), zI XT g → pJ g → g 2 2 = g0 2 2 → g 0 13 = g0 0 13 → Ex (fX6_readPart_5_p111 fu (fX6_readExpr_5 fu 5) g L) (fun (r : Unit) (g1 : Nat → Nat → Int32) (L1 : Nat → Nat → Int64) => zI XT g1 ∧ pJ g1 ∧ g1 2 2 = g0 2 2 ∧ g1 0 13 = g0 0 13) := by
    intro g L hI hJ k0_0 k0_1
    unfold fX6_readPart_5_p111
    exact Ex.ret ⟨hI, hJ, k0_0, k0_1⟩
  refine Ex.ite (fun c1 => ?_) (fun c1 => ?_)
  ·
    have c1 := icc_eq (m := (Int32.toInt (g0 5 4))) (n := 1) rfl (by decide) c1
    refine Ex.cb (sX6_readNumber_5 fu hfu 0 9999 g0 L0 hI hJ) (fun x2 g3 L4 hq6 => ?_)
    obtain ⟨hI, hJ, kk0, kk1, rb_⟩ := hq6
    have b7 : 0 ≤ (Int32.toInt x2) ∧ (Int32.toInt x2) ≤ 9999 := rb_
    have hI : zI XT g3 := hI
    have hJ : pJ g3 := hJ
    have k0_0 : g3 2 2 = g0 2 2 := kk0.trans k0_0
    have k0_1 : g3 0 13 = g0 0 13 := kk1.trans k0_1
    refine Ex.cb (sX8_add_4 fu hfu x2 g3 L4 hI hJ) (fun x8 g9 L10 hq12 => ?_)
    obtain ⟨hI, hJ, kk0, kk1⟩ := hq12
    have hI : zI XT g9 := hI
    have hJ : pJ g9 := hJ
    have k0_0 : g9 2 2 = g0 2 2 := kk0.trans k0_0
    have k0_1 : g9 0 13 = g0 0 13 := kk1.trans k0_1
    exact J111 g9 L10 hI hJ k0_0 k0_1
  ·
    have c1 := icc_neq (m := (Int32.toInt (g0 5 4))) (n := 1) rfl (by decide) c1
    refine Ex.ite (fun c13 => ?_) (fun c13 => ?_)
    ·
      have c13 := icc_eq (m := (Int32.toInt (g0 5 4))) (n := 2) rfl (by decide) c13
      refine Ex.cb (sX6_valueNow_5 fu hfu g0 L0 hI hJ) (fun x14 g15 L16 hq18 => ?_)
      obtain ⟨hI, hJ, kk0, kk1, rb_⟩ := hq18
      have b19 : (-1) ≤ (Int32.toInt x14) ∧ (Int32.toInt x14) ≤ 5 := rb_
      have hI : zI XT g15 := hI
      have hJ : pJ g15 := hJ
      have k0_0 : g15 2 2 = g0 2 2 := kk0.trans k0_0
      have k0_1 : g15 0 13 = g0 0 13 := kk1.trans k0_1
      have J52 : ∀ (v2 : Int32) (g : Nat → Nat → Int32) (L : Nat → Nat → Int64), ((-1) ≤ (Int32.toInt v2) ∧ (Int32.toInt v2) ≤ 5) → zI XT g → pJ g → g 2 2 = g0 2 2 → g 0 13 = g0 0 13 → Ex (fX6_readPart_5_p52 fu (fX6_readExpr_5 fu 5) v2 g L) (fun (r : Unit) (g1 : Nat → Nat → Int32) (L1 : Nat → Nat → Int64) => zI XT g1 ∧ pJ g1 ∧ g1 2 2 = g0 2 2 ∧ g1 0 13 = g0 0 13) := by
        intro v2 g L hb_v2 hI hJ k0_0 k0_1
        unfold fX6_readPart_5_p52
        generalize z20q : ((-1) - v2) = z20
        have e21 : (Int32.toInt z20) = (-1) - (Int32.toInt v2) := by rw [← z20q]; exact ic_subc (by decide) rfl (by omega) (by omega)
        refine Ex.cb (sX8_add_4 fu hfu z20 g L hI hJ) (fun x22 g23 L24 hq26 => ?_)
        obtain ⟨hI, hJ, kk0, kk1⟩ := hq26
        have hI : zI XT g23 := hI
        have hJ : pJ g23 := hJ
        have k0_0 : g23 2 2 = g0 2 2 := kk0.trans k0_0
        have k0_1 : g23 0 13 = g0 0 13 := kk1.trans k0_1
        refine Ex.cb (sX6_advance_5 fu hfu g23 L24 hI hJ) (fun x27 g28 L29 hq31 => ?_)
        obtain ⟨hI, hJ, kk0, kk1⟩ := hq31
        have hI : zI XT g28 := hI
        have hJ : pJ g28 := hJ
        have k0_0 : g28 2 2 = g0 2 2 := kk0.trans k0_0
        have k0_1 : g28 0 13 = g0 0 13 := kk1.trans k0_1
        exact J111 g28 L29 hI hJ k0_0 k0_1
      refine Ex.ite (fun c32 => ?_) (fun c32 => ?_)
      ·
        have c32 := icc_eq (m := (Int32.toInt x14)) (n := (-1)) rfl (by decide) c32
        refine Ex.cb (sX6_refuse_5 fu hfu 3 g15 L16 hI hJ) (fun x33 g34 L35 hq37 => ?_)
        obtain ⟨hI, hJ, kk0, kk1⟩ := hq37
        have hI : zI XT g34 := hI
        have hJ : pJ g34 := hJ
        have k0_0 : g34 2 2 = g0 2 2 := kk0.trans k0_0
        have k0_1 : g34 0 13 = g0 0 13 := kk1.trans k0_1
        exact J52 x14 g34 L35 (by omega) hI hJ k0_0 k0_1
      ·
        have c32 := icc_neq (m := (Int32.toInt x14)) (n := (-1)) rfl (by decide) c32
        exact J52 x14 g15 L16 (by omega) hI hJ k0_0 k0_1
    ·
      have c13 := icc_neq (m := (Int32.toInt (g0 5 4))) (n := 2) rfl (by decide) c13
      refine Ex.cb (sX6_isSignNow_5 fu hfu 40 g0 L0 hI hJ) (fun x38 g39 L40 hq42 => ?_)
      obtain ⟨hI, hJ, kk0, kk1, rb_⟩ := hq42
      have b43 : 0 ≤ (Int32.toInt x38) ∧ (Int32.toInt x38) ≤ 1 := rb_
      have hI : zI XT g39 := hI
      have hJ : pJ g39 := hJ
      have k0_0 : g39 2 2 = g0 2 2 := kk0.trans k0_0
      have k0_1 : g39 0 13 = g0 0 13 := kk1.trans k0_1
      have J106 : ∀ (g : Nat → Nat → Int32) (L : Nat → Nat → Int64), zI XT g → pJ g → g 2 2 = g0 2 2 → g 0 13 = g0 0 13 → Ex (fX6_readPart_5_p106 fu (fX6_readExpr_5 fu 5) g L) (fun (r : Unit) (g1 : Nat → Nat → Int32) (L1 : Nat → Nat → Int64) => zI XT g1 ∧ pJ g1 ∧ g1 2 2 = g0 2 2 ∧ g1 0 13 = g0 0 13) := by
        intro g L hI hJ k0_0 k0_1
        unfold fX6_readPart_5_p106
        refine Ex.cb (sX6_refuse_5 fu hfu 1 g L hI hJ) (fun x44 g45 L46 hq48 => ?_)
        obtain ⟨hI, hJ, kk0, kk1⟩ := hq48
        have hI : zI XT g45 := hI
        have hJ : pJ g45 := hJ
        have k0_0 : g45 2 2 = g0 2 2 := kk0.trans k0_0
        have k0_1 : g45 0 13 = g0 0 13 := kk1.trans k0_1
        exact J111 g45 L46 hI hJ k0_0 k0_1
      refine Ex.ite (fun c49 => ?_) (fun c49 => ?_)
      ·
        have c49 := icc_eq (m := (Int32.toInt x38)) (n := 0) rfl (by decide) c49
        exact J106 g39 L40 hI hJ k0_0 k0_1
      ·
        have c49 := icc_neq (m := (Int32.toInt x38)) (n := 0) rfl (by decide) c49
        refine Ex.ite (fun c50 => ?_) (fun c50 => ?_)
        ·
          have c50 := icc_lt (m := 5) (n := (Int32.toInt p1)) (by decide) rfl c50
          omega
        ·
          have c50 := icc_nlt (m := 5) (n := (Int32.toInt p1)) (by decide) rfl c50
          refine Ex.cb (sX6_advance_5 fu hfu g39 L40 hI hJ) (fun x51 g52 L53 hq55 => ?_)
          obtain ⟨hI, hJ, kk0, kk1⟩ := hq55
          have hI : zI XT g52 := hI
          have hJ : pJ g52 := hJ
          have k0_0 : g52 2 2 = g0 2 2 := kk0.trans k0_0
          have k0_1 : g52 0 13 = g0 0 13 := kk1.trans k0_1
          generalize z56q : (p1 + 1) = z56
          have e57 : (Int32.toInt z56) = (Int32.toInt p1) + 1 := by rw [← z56q]; exact ic_addc rfl (by decide) (by omega) (by omega)
          refine Ex.cb (sX6_readExpr_5_L5 fu hfu z56 g52 L53 hI hJ (by omega)) (fun x58 g59 L60 hq62 => ?_)
          obtain ⟨hI, hJ, kk0, kk1⟩ := hq62
          have hI : zI XT g59 := hI
          have hJ : pJ g59 := hJ
          have k0_0 : g59 2 2 = g0 2 2 := kk0.trans k0_0
          have k0_1 : g59 0 13 = g0 0 13 := kk1.trans k0_1
          refine Ex.cb (sX6_readSign_5 fu hfu 41 g59 L60 hI hJ) (fun x63 g64 L65 hq67 => ?_)
          obtain ⟨hI, hJ, kk0, kk1⟩ := hq67
          have hI : zI XT g64 := hI
          have hJ : pJ g64 := hJ
          have k0_0 : g64 2 2 = g0 2 2 := kk0.trans k0_0
          have k0_1 : g64 0 13 = g0 0 13 := kk1.trans k0_1
          exact J111 g64 L65 hI hJ k0_0 k0_1
set_option maxHeartbeats 4000000 in
set_option maxRecDepth 100000 in
theorem sX6_readProduct_5_L6 (fu : Nat) (hfu : 1180591620717411303424 ≤ fu) (p1 : Int32) (g0 : Nat → Nat → Int32) (L0 : Nat → Nat → Int64) (hI : zI XT g0) (hJ : pJ g0) (hp1 : (1 ≤ (Int32.toInt p1) ∧ (Int32.toInt p1) ≤ 1)) : Ex (fX6_readProduct_5 fu (fX6_readExpr_5 fu 5) p1 g0 L0) (fun (r : Unit) (g1 : Nat → Nat → Int32) (L1 : Nat → Nat → Int64) => zI XT g1 ∧ pJ g1 ∧ g1 2 2 = g0 2 2 ∧ g1 0 13 = g0 0 13) := by
  have k0_0 : g0 2 2 = g0 2 2 := rfl
  have k0_1 : g0 0 13 = g0 0 13 := rfl
  unfold fX6_readProduct_5
  refine Ex.cb (sX6_readPart_5_L6 fu hfu p1 g0 L0 hI hJ (by omega)) (fun x1 g2 L3 hq5 => ?_)
  obtain ⟨hI, hJ, kk0, kk1⟩ := hq5
  have hI : zI XT g2 := hI
  have hJ : pJ g2 := hJ
  have k0_0 : g2 2 2 = g0 2 2 := kk0.trans k0_0
  have k0_1 : g2 0 13 = g0 0 13 := kk1.trans k0_1
  have lp7 : ∀ (v1 : Int32) (v2 : Int32) (g : Nat → Nat → Int32) (L : Nat → Nat → Int64), (1 ≤ (Int32.toInt v1) ∧ (Int32.toInt v1) ≤ 1) → (0 ≤ (Int32.toInt v2) ∧ (Int32.toInt v2) ≤ 700) → zI XT g → pJ g → g 2 2 = g0 2 2 → g 0 13 = g0 0 13 → Ex (fX6_readProduct_5_l7 fu (fX6_readExpr_5 fu 5) v1 v2 g L) (fun (r : Unit) (g1 : Nat → Nat → Int32) (L1 : Nat → Nat → Int64) => zI XT g1 ∧ pJ g1 ∧ g1 2 2 = g0 2 2 ∧ g1 0 13 = g0 0 13) := by
    intro v1 v2 g L hb_v1 hb_v2 hI hJ k0_0 k0_1
    unfold fX6_readProduct_5_l7
    refine Ex.loop (fun v => ((1 ≤ (Int32.toInt v1) ∧ (Int32.toInt v1) ≤ 1)) ∧ ((0 ≤ (Int32.toInt (v.1)) ∧ (Int32.toInt (v.1)) ≤ 700)) ∧ (zI XT (v.2.1)) ∧ (pJ (v.2.1)) ∧ ((v.2.1) 2 2 = g0 2 2) ∧ ((v.2.1) 0 13 = g0 0 13)) (fun v => 701 - (Int32.toInt (v.1))) (by omega) (by show 701 - (Int32.toInt v2) < (fu : Int); omega) ⟨hb_v1, hb_v2, hI, hJ, k0_0, k0_1⟩ (fun k7 v hv ih7 => ?_)
    obtain ⟨v2, g, L⟩ := v
    obtain ⟨hb_v1, hb_v2, hI, hJ, k0_0, k0_1⟩ := hv
    have hb_v1 : (1 ≤ (Int32.toInt v1) ∧ (Int32.toInt v1) ≤ 1) := hb_v1
    have hb_v2 : (0 ≤ (Int32.toInt v2) ∧ (Int32.toInt v2) ≤ 700) := hb_v2
    have hI : zI XT g := hI
    have hJ : pJ g := hJ
    have k0_0 : g 2 2 = g0 2 2 := k0_0
    have k0_1 : g 0 13 = g0 0 13 := k0_1
    have ih7 : ∀ v' : Int32 × (Nat → Nat → Int32) × (Nat → Nat → Int64), (((1 ≤ (Int32.toInt v1) ∧ (Int32.toInt v1) ≤ 1)) ∧ ((0 ≤ (Int32.toInt (v'.1)) ∧ (Int32.toInt (v'.1)) ≤ 700)) ∧ (zI XT (v'.2.1)) ∧ (pJ (v'.2.1)) ∧ ((v'.2.1) 2 2 = g0 2 2) ∧ ((v'.2.1) 0 13 = g0 0 13)) → 701 - (Int32.toInt (v'.1)) < 701 - (Int32.toInt v2) → 0 < 701 - (Int32.toInt v2) → Ex (k7 v') (fun (r : Unit) (g1 : Nat → Nat → Int32) (L1 : Nat → Nat → Int64) => zI XT g1 ∧ pJ g1 ∧ g1 2 2 = g0 2 2 ∧ g1 0 13 = g0 0 13) := ih7
    show Ex (fX6_readProduct_5_s7 fu (fX6_readExpr_5 fu 5) v1 k7 v2 g L) (fun (r : Unit) (g1 : Nat → Nat → Int32) (L1 : Nat → Nat → Int64) => zI XT g1 ∧ pJ g1 ∧ g1 2 2 = g0 2 2 ∧ g1 0 13 = g0 0 13)
    unfold fX6_readProduct_5_s7
    have J75 : ∀ (g : Nat → Nat → Int32) (L : Nat → Nat → Int64), zI XT g → pJ g → g 2 2 = g0 2 2 → g 0 13 = g0 0 13 → Ex (fX6_readProduct_5_p75 fu (fX6_readExpr_5 fu 5) g L) (fun (r : Unit) (g1 : Nat → Nat → Int32) (L1 : Nat → Nat → Int64) => zI XT g1 ∧ pJ g1 ∧ g1 2 2 = g0 2 2 ∧ g1 0 13 = g0 0 13) := by
      intro g L hI hJ k0_0 k0_1
      unfold fX6_readProduct_5_p75
      exact Ex.ret ⟨hI, hJ, k0_0, k0_1⟩
    refine Ex.ite (fun c6 => ?_) (fun c6 => ?_)
    ·
      have c6 := icc_le (m := 700) (n := (Int32.toInt v2)) (by decide) rfl c6
      exact J75 g L hI hJ k0_0 k0_1
    ·
      have c6 := icc_nle (m := 700) (n := (Int32.toInt v2)) (by decide) rfl c6
      refine Ex.cb (sX6_isSignNow_5 fu hfu 42 g L hI hJ) (fun x7 g8 L9 hq11 => ?_)
      obtain ⟨hI, hJ, kk0, kk1, rb_⟩ := hq11
      have b12 : 0 ≤ (Int32.toInt x7) ∧ (Int32.toInt x7) ≤ 1 := rb_
      have hI : zI XT g8 := hI
      have hJ : pJ g8 := hJ
      have k0_0 : g8 2 2 = g0 2 2 := kk0.trans k0_0
      have k0_1 : g8 0 13 = g0 0 13 := kk1.trans k0_1
      have J32 : ∀ (g : Nat → Nat → Int32) (L : Nat → Nat → Int64), (1 ≤ (Int32.toInt v1) ∧ (Int32.toInt v1) ≤ 1) → (0 ≤ (Int32.toInt v2) ∧ (Int32.toInt v2) ≤ 699) → zI XT g → pJ g → g 2 2 = g0 2 2 → g 0 13 = g0 0 13 → Ex (fX6_readProduct_5_p32 fu (fX6_readExpr_5 fu 5) k7 v1 v2 g L) (fun (r : Unit) (g1 : Nat → Nat → Int32) (L1 : Nat → Nat → Int64) => zI XT g1 ∧ pJ g1 ∧ g1 2 2 = g0 2 2 ∧ g1 0 13 = g0 0 13) := by
        intro g L hb_v1 hb_v2 hI hJ k0_0 k0_1
        unfold fX6_readProduct_5_p32
        refine Ex.cb (sX6_isSignNow_5 fu hfu 42 g L hI hJ) (fun x13 g14 L15 hq17 => ?_)
        obtain ⟨hI, hJ, kk0, kk1, rb_⟩ := hq17
        have b18 : 0 ≤ (Int32.toInt x13) ∧ (Int32.toInt x13) ≤ 1 := rb_
        have hI : zI XT g14 := hI
        have hJ : pJ g14 := hJ
        have k0_0 : g14 2 2 = g0 2 2 := kk0.trans k0_0
        have k0_1 : g14 0 13 = g0 0 13 := kk1.trans k0_1
        have J48 : ∀ (t0 : Int32) (g : Nat → Nat → Int32) (L : Nat → Nat → Int64), (1 ≤ (Int32.toInt v1) ∧ (Int32.toInt v1) ≤ 1) → (0 ≤ (Int32.toInt v2) ∧ (Int32.toInt v2) ≤ 699) → ((-10) ≤ (Int32.toInt t0) ∧ (Int32.toInt t0) ≤ (-9)) → zI XT g → pJ g → g 2 2 = g0 2 2 → g 0 13 = g0 0 13 → Ex (fX6_readProduct_5_p48 fu (fX6_readExpr_5 fu 5) k7 v1 v2 t0 g L) (fun (r : Unit) (g1 : Nat → Nat → Int32) (L1 : Nat → Nat → Int64) => zI XT g1 ∧ pJ g1 ∧ g1 2 2 = g0 2 2 ∧ g1 0 13 = g0 0 13) := by
          intro t0 g L hb_v1 hb_v2 hb_t0 hI hJ k0_0 k0_1
          unfold fX6_readProduct_5_p48
          refine Ex.cb (sX6_advance_5 fu hfu g L hI hJ) (fun x19 g20 L21 hq23 => ?_)
          obtain ⟨hI, hJ, kk0, kk1⟩ := hq23
          have hI : zI XT g20 := hI
          have hJ : pJ g20 := hJ
          have k0_0 : g20 2 2 = g0 2 2 := kk0.trans k0_0
          have k0_1 : g20 0 13 = g0 0 13 := kk1.trans k0_1
          refine Ex.cb (sX6_readPart_5_L6 fu hfu v1 g20 L21 hI hJ (by omega)) (fun x24 g25 L26 hq28 => ?_)
          obtain ⟨hI, hJ, kk0, kk1⟩ := hq28
          have hI : zI XT g25 := hI
          have hJ : pJ g25 := hJ
          have k0_0 : g25 2 2 = g0 2 2 := kk0.trans k0_0
          have k0_1 : g25 0 13 = g0 0 13 := kk1.trans k0_1
          refine Ex.cb (sX8_add_4 fu hfu t0 g25 L26 hI hJ) (fun x29 g30 L31 hq33 => ?_)
          obtain ⟨hI, hJ, kk0, kk1⟩ := hq33
          have hI : zI XT g30 := hI
          have hJ : pJ g30 := hJ
          have k0_0 : g30 2 2 = g0 2 2 := kk0.trans k0_0
          have k0_1 : g30 0 13 = g0 0 13 := kk1.trans k0_1
          generalize z34q : (v2 + 1) = z34
          have e35 : (Int32.toInt z34) = (Int32.toInt v2) + 1 := by rw [← z34q]; exact ic_addc rfl (by decide) (by omega) (by omega)
          exact ih7 (z34, g30, L31) ⟨(show (1 ≤ (Int32.toInt v1) ∧ (Int32.toInt v1) ≤ 1) from by omega), (show (0 ≤ (Int32.toInt z34) ∧ (Int32.toInt z34) ≤ 700) from by omega), hI, hJ, k0_0, k0_1⟩ (by show 701 - (Int32.toInt z34) < _; omega) (by omega)
        refine Ex.ite (fun c36 => ?_) (fun c36 => ?_)
        ·
          have c36 := icc_eq (m := (Int32.toInt x13)) (n := 0) rfl (by decide) c36
          exact J48 (-10) g14 L15 (by omega) (by omega) (by decide) hI hJ k0_0 k0_1
        ·
          have c36 := icc_neq (m := (Int32.toInt x13)) (n := 0) rfl (by decide) c36
          exact J48 (-9) g14 L15 (by omega) (by omega) (by decide) hI hJ k0_0 k0_1
      refine Ex.ite (fun c37 => ?_) (fun c37 => ?_)
      ·
        have c37 := icc_eq (m := (Int32.toInt x7)) (n := 0) rfl (by decide) c37
        refine Ex.cb (sX6_isSignNow_5 fu hfu 47 g8 L9 hI hJ) (fun x38 g39 L40 hq42 => ?_)
        obtain ⟨hI, hJ, kk0, kk1, rb_⟩ := hq42
        have b43 : 0 ≤ (Int32.toInt x38) ∧ (Int32.toInt x38) ≤ 1 := rb_
        have hI : zI XT g39 := hI
        have hJ : pJ g39 := hJ
        have k0_0 : g39 2 2 = g0 2 2 := kk0.trans k0_0
        have k0_1 : g39 0 13 = g0 0 13 := kk1.trans k0_1
        refine Ex.ite (fun c44 => ?_) (fun c44 => ?_)
        ·
          have c44 := icc_eq (m := (Int32.toInt x38)) (n := 0) rfl (by decide) c44
          exact J75 g39 L40 hI hJ k0_0 k0_1
        ·
          have c44 := icc_neq (m := (Int32.toInt x38)) (n := 0) rfl (by decide) c44
          exact J32 g39 L40 (by omega) (by omega) hI hJ k0_0 k0_1
      ·
        have c37 := icc_neq (m := (Int32.toInt x7)) (n := 0) rfl (by decide) c37
        exact J32 g8 L9 (by omega) (by omega) hI hJ k0_0 k0_1
  exact lp7 p1 0 g2 L3 (by omega) (by decide) hI hJ k0_0 k0_1
set_option maxHeartbeats 4000000 in
set_option maxRecDepth 100000 in
theorem sX6_readSum_5_L6 (fu : Nat) (hfu : 1180591620717411303424 ≤ fu) (p1 : Int32) (g0 : Nat → Nat → Int32) (L0 : Nat → Nat → Int64) (hI : zI XT g0) (hJ : pJ g0) (hp1 : (1 ≤ (Int32.toInt p1) ∧ (Int32.toInt p1) ≤ 1)) : Ex (fX6_readSum_5 fu (fX6_readExpr_5 fu 5) p1 g0 L0) (fun (r : Unit) (g1 : Nat → Nat → Int32) (L1 : Nat → Nat → Int64) => zI XT g1 ∧ pJ g1 ∧ g1 2 2 = g0 2 2 ∧ g1 0 13 = g0 0 13) := by
  have k0_0 : g0 2 2 = g0 2 2 := rfl
  have k0_1 : g0 0 13 = g0 0 13 := rfl
  unfold fX6_readSum_5
  refine Ex.cb (sX6_readProduct_5_L6 fu hfu p1 g0 L0 hI hJ (by omega)) (fun x1 g2 L3 hq5 => ?_)
  obtain ⟨hI, hJ, kk0, kk1⟩ := hq5
  have hI : zI XT g2 := hI
  have hJ : pJ g2 := hJ
  have k0_0 : g2 2 2 = g0 2 2 := kk0.trans k0_0
  have k0_1 : g2 0 13 = g0 0 13 := kk1.trans k0_1
  have lp7 : ∀ (v1 : Int32) (v2 : Int32) (g : Nat → Nat → Int32) (L : Nat → Nat → Int64), (1 ≤ (Int32.toInt v1) ∧ (Int32.toInt v1) ≤ 1) → (0 ≤ (Int32.toInt v2) ∧ (Int32.toInt v2) ≤ 700) → zI XT g → pJ g → g 2 2 = g0 2 2 → g 0 13 = g0 0 13 → Ex (fX6_readSum_5_l7 fu (fX6_readExpr_5 fu 5) v1 v2 g L) (fun (r : Unit) (g1 : Nat → Nat → Int32) (L1 : Nat → Nat → Int64) => zI XT g1 ∧ pJ g1 ∧ g1 2 2 = g0 2 2 ∧ g1 0 13 = g0 0 13) := by
    intro v1 v2 g L hb_v1 hb_v2 hI hJ k0_0 k0_1
    unfold fX6_readSum_5_l7
    refine Ex.loop (fun v => ((1 ≤ (Int32.toInt v1) ∧ (Int32.toInt v1) ≤ 1)) ∧ ((0 ≤ (Int32.toInt (v.1)) ∧ (Int32.toInt (v.1)) ≤ 700)) ∧ (zI XT (v.2.1)) ∧ (pJ (v.2.1)) ∧ ((v.2.1) 2 2 = g0 2 2) ∧ ((v.2.1) 0 13 = g0 0 13)) (fun v => 701 - (Int32.toInt (v.1))) (by omega) (by show 701 - (Int32.toInt v2) < (fu : Int); omega) ⟨hb_v1, hb_v2, hI, hJ, k0_0, k0_1⟩ (fun k7 v hv ih7 => ?_)
    obtain ⟨v2, g, L⟩ := v
    obtain ⟨hb_v1, hb_v2, hI, hJ, k0_0, k0_1⟩ := hv
    have hb_v1 : (1 ≤ (Int32.toInt v1) ∧ (Int32.toInt v1) ≤ 1) := hb_v1
    have hb_v2 : (0 ≤ (Int32.toInt v2) ∧ (Int32.toInt v2) ≤ 700) := hb_v2
    have hI : zI XT g := hI
    have hJ : pJ g := hJ
    have k0_0 : g 2 2 = g0 2 2 := k0_0
    have k0_1 : g 0 13 = g0 0 13 := k0_1
    have ih7 : ∀ v' : Int32 × (Nat → Nat → Int32) × (Nat → Nat → Int64), (((1 ≤ (Int32.toInt v1) ∧ (Int32.toInt v1) ≤ 1)) ∧ ((0 ≤ (Int32.toInt (v'.1)) ∧ (Int32.toInt (v'.1)) ≤ 700)) ∧ (zI XT (v'.2.1)) ∧ (pJ (v'.2.1)) ∧ ((v'.2.1) 2 2 = g0 2 2) ∧ ((v'.2.1) 0 13 = g0 0 13)) → 701 - (Int32.toInt (v'.1)) < 701 - (Int32.toInt v2) → 0 < 701 - (Int32.toInt v2) → Ex (k7 v') (fun (r : Unit) (g1 : Nat → Nat → Int32) (L1 : Nat → Nat → Int64) => zI XT g1 ∧ pJ g1 ∧ g1 2 2 = g0 2 2 ∧ g1 0 13 = g0 0 13) := ih7
    show Ex (fX6_readSum_5_s7 fu (fX6_readExpr_5 fu 5) v1 k7 v2 g L) (fun (r : Unit) (g1 : Nat → Nat → Int32) (L1 : Nat → Nat → Int64) => zI XT g1 ∧ pJ g1 ∧ g1 2 2 = g0 2 2 ∧ g1 0 13 = g0 0 13)
    unfold fX6_readSum_5_s7
    have J75 : ∀ (g : Nat → Nat → Int32) (L : Nat → Nat → Int64), zI XT g → pJ g → g 2 2 = g0 2 2 → g 0 13 = g0 0 13 → Ex (fX6_readSum_5_p75 fu (fX6_readExpr_5 fu 5) g L) (fun (r : Unit) (g1 : Nat → Nat → Int32) (L1 : Nat → Nat → Int64) => zI XT g1 ∧ pJ g1 ∧ g1 2 2 = g0 2 2 ∧ g1 0 13 = g0 0 13) := by
      intro g L hI hJ k0_0 k0_1
      unfold fX6_readSum_5_p75
      exact Ex.ret ⟨hI, hJ, k0_0, k0_1⟩
    refine Ex.ite (fun c6 => ?_) (fun c6 => ?_)
    ·
      have c6 := icc_le (m := 700) (n := (Int32.toInt v2)) (by decide) rfl c6
      exact J75 g L hI hJ k0_0 k0_1
    ·
      have c6 := icc_nle (m := 700) (n := (Int32.toInt v2)) (by decide) rfl c6
      refine Ex.cb (sX6_isSignNow_5 fu hfu 43 g L hI hJ) (fun x7 g8 L9 hq11 => ?_)
      obtain ⟨hI, hJ, kk0, kk1, rb_⟩ := hq11
      have b12 : 0 ≤ (Int32.toInt x7) ∧ (Int32.toInt x7) ≤ 1 := rb_
      have hI : zI XT g8 := hI
      have hJ : pJ g8 := hJ
      have k0_0 : g8 2 2 = g0 2 2 := kk0.trans k0_0
      have k0_1 : g8 0 13 = g0 0 13 := kk1.trans k0_1
      have J32 : ∀ (g : Nat → Nat → Int32) (L : Nat → Nat → Int64), (1 ≤ (Int32.toInt v1) ∧ (Int32.toInt v1) ≤ 1) → (0 ≤ (Int32.toInt v2) ∧ (Int32.toInt v2) ≤ 699) → zI XT g → pJ g → g 2 2 = g0 2 2 → g 0 13 = g0 0 13 → Ex (fX6_readSum_5_p32 fu (fX6_readExpr_5 fu 5) k7 v1 v2 g L) (fun (r : Unit) (g1 : Nat → Nat → Int32) (L1 : Nat → Nat → Int64) => zI XT g1 ∧ pJ g1 ∧ g1 2 2 = g0 2 2 ∧ g1 0 13 = g0 0 13) := by
        intro g L hb_v1 hb_v2 hI hJ k0_0 k0_1
        unfold fX6_readSum_5_p32
        refine Ex.cb (sX6_isSignNow_5 fu hfu 43 g L hI hJ) (fun x13 g14 L15 hq17 => ?_)
        obtain ⟨hI, hJ, kk0, kk1, rb_⟩ := hq17
        have b18 : 0 ≤ (Int32.toInt x13) ∧ (Int32.toInt x13) ≤ 1 := rb_
        have hI : zI XT g14 := hI
        have hJ : pJ g14 := hJ
        have k0_0 : g14 2 2 = g0 2 2 := kk0.trans k0_0
        have k0_1 : g14 0 13 = g0 0 13 := kk1.trans k0_1
        have J48 : ∀ (t0 : Int32) (g : Nat → Nat → Int32) (L : Nat → Nat → Int64), (1 ≤ (Int32.toInt v1) ∧ (Int32.toInt v1) ≤ 1) → (0 ≤ (Int32.toInt v2) ∧ (Int32.toInt v2) ≤ 699) → ((-8) ≤ (Int32.toInt t0) ∧ (Int32.toInt t0) ≤ (-7)) → zI XT g → pJ g → g 2 2 = g0 2 2 → g 0 13 = g0 0 13 → Ex (fX6_readSum_5_p48 fu (fX6_readExpr_5 fu 5) k7 v1 v2 t0 g L) (fun (r : Unit) (g1 : Nat → Nat → Int32) (L1 : Nat → Nat → Int64) => zI XT g1 ∧ pJ g1 ∧ g1 2 2 = g0 2 2 ∧ g1 0 13 = g0 0 13) := by
          intro t0 g L hb_v1 hb_v2 hb_t0 hI hJ k0_0 k0_1
          unfold fX6_readSum_5_p48
          refine Ex.cb (sX6_advance_5 fu hfu g L hI hJ) (fun x19 g20 L21 hq23 => ?_)
          obtain ⟨hI, hJ, kk0, kk1⟩ := hq23
          have hI : zI XT g20 := hI
          have hJ : pJ g20 := hJ
          have k0_0 : g20 2 2 = g0 2 2 := kk0.trans k0_0
          have k0_1 : g20 0 13 = g0 0 13 := kk1.trans k0_1
          refine Ex.cb (sX6_readProduct_5_L6 fu hfu v1 g20 L21 hI hJ (by omega)) (fun x24 g25 L26 hq28 => ?_)
          obtain ⟨hI, hJ, kk0, kk1⟩ := hq28
          have hI : zI XT g25 := hI
          have hJ : pJ g25 := hJ
          have k0_0 : g25 2 2 = g0 2 2 := kk0.trans k0_0
          have k0_1 : g25 0 13 = g0 0 13 := kk1.trans k0_1
          refine Ex.cb (sX8_add_4 fu hfu t0 g25 L26 hI hJ) (fun x29 g30 L31 hq33 => ?_)
          obtain ⟨hI, hJ, kk0, kk1⟩ := hq33
          have hI : zI XT g30 := hI
          have hJ : pJ g30 := hJ
          have k0_0 : g30 2 2 = g0 2 2 := kk0.trans k0_0
          have k0_1 : g30 0 13 = g0 0 13 := kk1.trans k0_1
          generalize z34q : (v2 + 1) = z34
          have e35 : (Int32.toInt z34) = (Int32.toInt v2) + 1 := by rw [← z34q]; exact ic_addc rfl (by decide) (by omega) (by omega)
          exact ih7 (z34, g30, L31) ⟨(show (1 ≤ (Int32.toInt v1) ∧ (Int32.toInt v1) ≤ 1) from by omega), (show (0 ≤ (Int32.toInt z34) ∧ (Int32.toInt z34) ≤ 700) from by omega), hI, hJ, k0_0, k0_1⟩ (by show 701 - (Int32.toInt z34) < _; omega) (by omega)
        refine Ex.ite (fun c36 => ?_) (fun c36 => ?_)
        ·
          have c36 := icc_eq (m := (Int32.toInt x13)) (n := 0) rfl (by decide) c36
          exact J48 (-8) g14 L15 (by omega) (by omega) (by decide) hI hJ k0_0 k0_1
        ·
          have c36 := icc_neq (m := (Int32.toInt x13)) (n := 0) rfl (by decide) c36
          exact J48 (-7) g14 L15 (by omega) (by omega) (by decide) hI hJ k0_0 k0_1
      refine Ex.ite (fun c37 => ?_) (fun c37 => ?_)
      ·
        have c37 := icc_eq (m := (Int32.toInt x7)) (n := 0) rfl (by decide) c37
        refine Ex.cb (sX6_isSignNow_5 fu hfu 45 g8 L9 hI hJ) (fun x38 g39 L40 hq42 => ?_)
        obtain ⟨hI, hJ, kk0, kk1, rb_⟩ := hq42
        have b43 : 0 ≤ (Int32.toInt x38) ∧ (Int32.toInt x38) ≤ 1 := rb_
        have hI : zI XT g39 := hI
        have hJ : pJ g39 := hJ
        have k0_0 : g39 2 2 = g0 2 2 := kk0.trans k0_0
        have k0_1 : g39 0 13 = g0 0 13 := kk1.trans k0_1
        refine Ex.ite (fun c44 => ?_) (fun c44 => ?_)
        ·
          have c44 := icc_eq (m := (Int32.toInt x38)) (n := 0) rfl (by decide) c44
          exact J75 g39 L40 hI hJ k0_0 k0_1
        ·
          have c44 := icc_neq (m := (Int32.toInt x38)) (n := 0) rfl (by decide) c44
          exact J32 g39 L40 (by omega) (by omega) hI hJ k0_0 k0_1
      ·
        have c37 := icc_neq (m := (Int32.toInt x7)) (n := 0) rfl (by decide) c37
        exact J32 g8 L9 (by omega) (by omega) hI hJ k0_0 k0_1
  exact lp7 p1 0 g2 L3 (by omega) (by decide) hI hJ k0_0 k0_1
set_option maxHeartbeats 4000000 in
set_option maxRecDepth 100000 in
theorem sX6_readTest_5_L6 (fu : Nat) (hfu : 1180591620717411303424 ≤ fu) (p1 : Int32) (g0 : Nat → Nat → Int32) (L0 : Nat → Nat → Int64) (hI : zI XT g0) (hJ : pJ g0) (hp1 : (1 ≤ (Int32.toInt p1) ∧ (Int32.toInt p1) ≤ 1)) : Ex (fX6_readTest_5 fu (fX6_readExpr_5 fu 5) p1 g0 L0) (fun (r : Unit) (g1 : Nat → Nat → Int32) (L1 : Nat → Nat → Int64) => zI XT g1 ∧ pJ g1 ∧ g1 2 2 = g0 2 2 ∧ g1 0 13 = g0 0 13) := by
  have k0_0 : g0 2 2 = g0 2 2 := rfl
  have k0_1 : g0 0 13 = g0 0 13 := rfl
  unfold fX6_readTest_5
  refine Ex.cb (sX6_readSum_5_L6 fu hfu p1 g0 L0 hI hJ (by omega)) (fun x1 g2 L3 hq5 => ?_)
  obtain ⟨hI, hJ, kk0, kk1⟩ := hq5
  have hI : zI XT g2 := hI
  have hJ : pJ g2 := hJ
  have k0_0 : g2 2 2 = g0 2 2 := kk0.trans k0_0
  have k0_1 : g2 0 13 = g0 0 13 := kk1.trans k0_1
  refine Ex.cb (sX6_isSignNow_5 fu hfu 60 g2 L3 hI hJ) (fun x6 g7 L8 hq10 => ?_)
  obtain ⟨hI, hJ, kk0, kk1, rb_⟩ := hq10
  have b11 : 0 ≤ (Int32.toInt x6) ∧ (Int32.toInt x6) ≤ 1 := rb_
  have hI : zI XT g7 := hI
  have hJ : pJ g7 := hJ
  have k0_0 : g7 2 2 = g0 2 2 := kk0.trans k0_0
  have k0_1 : g7 0 13 = g0 0 13 := kk1.trans k0_1
  have J68 : ∀ (g : Nat → Nat → Int32) (L : Nat → Nat → Int64), zI XT g → pJ g → g 2 2 = g0 2 2 → g 0 13 = g0 0 13 → Ex (fX6_readTest_5_p68 fu (fX6_readExpr_5 fu 5) g L) (fun (r : Unit) (g1 : Nat → Nat → Int32) (L1 : Nat → Nat → Int64) => zI XT g1 ∧ pJ g1 ∧ g1 2 2 = g0 2 2 ∧ g1 0 13 = g0 0 13) := by
    intro g L hI hJ k0_0 k0_1
    unfold fX6_readTest_5_p68
    exact Ex.ret ⟨hI, hJ, k0_0, k0_1⟩
  refine Ex.ite (fun c12 => ?_) (fun c12 => ?_)
  ·
    have c12 := icc_eq (m := (Int32.toInt x6)) (n := 0) rfl (by decide) c12
    refine Ex.cb (sX6_isSignNow_5 fu hfu 61 g7 L8 hI hJ) (fun x13 g14 L15 hq17 => ?_)
    obtain ⟨hI, hJ, kk0, kk1, rb_⟩ := hq17
    have b18 : 0 ≤ (Int32.toInt x13) ∧ (Int32.toInt x13) ≤ 1 := rb_
    have hI : zI XT g14 := hI
    have hJ : pJ g14 := hJ
    have k0_0 : g14 2 2 = g0 2 2 := kk0.trans k0_0
    have k0_1 : g14 0 13 = g0 0 13 := kk1.trans k0_1
    refine Ex.ite (fun c19 => ?_) (fun c19 => ?_)
    ·
      have c19 := icc_eq (m := (Int32.toInt x13)) (n := 0) rfl (by decide) c19
      exact J68 g14 L15 hI hJ k0_0 k0_1
    ·
      have c19 := icc_neq (m := (Int32.toInt x13)) (n := 0) rfl (by decide) c19
      refine Ex.cb (sX6_advance_5 fu hfu g14 L15 hI hJ) (fun x20 g21 L22 hq24 => ?_)
      obtain ⟨hI, hJ, kk0, kk1⟩ := hq24
      have hI : zI XT g21 := hI
      have hJ : pJ g21 := hJ
      have k0_0 : g21 2 2 = g0 2 2 := kk0.trans k0_0
      have k0_1 : g21 0 13 = g0 0 13 := kk1.trans k0_1
      refine Ex.cb (sX6_readSum_5_L6 fu hfu p1 g21 L22 hI hJ (by omega)) (fun x25 g26 L27 hq29 => ?_)
      obtain ⟨hI, hJ, kk0, kk1⟩ := hq29
      have hI : zI XT g26 := hI
      have hJ : pJ g26 := hJ
      have k0_0 : g26 2 2 = g0 2 2 := kk0.trans k0_0
      have k0_1 : g26 0 13 = g0 0 13 := kk1.trans k0_1
      refine Ex.cb (sX8_add_4 fu hfu (-12) g26 L27 hI hJ) (fun x30 g31 L32 hq34 => ?_)
      obtain ⟨hI, hJ, kk0, kk1⟩ := hq34
      have hI : zI XT g31 := hI
      have hJ : pJ g31 := hJ
      have k0_0 : g31 2 2 = g0 2 2 := kk0.trans k0_0
      have k0_1 : g31 0 13 = g0 0 13 := kk1.trans k0_1
      exact J68 g31 L32 hI hJ k0_0 k0_1
  ·
    have c12 := icc_neq (m := (Int32.toInt x6)) (n := 0) rfl (by decide) c12
    refine Ex.cb (sX6_advance_5 fu hfu g7 L8 hI hJ) (fun x35 g36 L37 hq39 => ?_)
    obtain ⟨hI, hJ, kk0, kk1⟩ := hq39
    have hI : zI XT g36 := hI
    have hJ : pJ g36 := hJ
    have k0_0 : g36 2 2 = g0 2 2 := kk0.trans k0_0
    have k0_1 : g36 0 13 = g0 0 13 := kk1.trans k0_1
    refine Ex.cb (sX6_readSum_5_L6 fu hfu p1 g36 L37 hI hJ (by omega)) (fun x40 g41 L42 hq44 => ?_)
    obtain ⟨hI, hJ, kk0, kk1⟩ := hq44
    have hI : zI XT g41 := hI
    have hJ : pJ g41 := hJ
    have k0_0 : g41 2 2 = g0 2 2 := kk0.trans k0_0
    have k0_1 : g41 0 13 = g0 0 13 := kk1.trans k0_1
    refine Ex.cb (sX8_add_4 fu hfu (-11) g41 L42 hI hJ) (fun x45 g46 L47 hq49 => ?_)
    obtain ⟨hI, hJ, kk0, kk1⟩ := hq49
    have hI : zI XT g46 := hI
    have hJ : pJ g46 := hJ
    have k0_0 : g46 2 2 = g0 2 2 := kk0.trans k0_0
    have k0_1 : g46 0 13 = g0 0 13 := kk1.trans k0_1
    exact J68 g46 L47 hI hJ k0_0 k0_1
set_option maxHeartbeats 4000000 in
set_option maxRecDepth 100000 in
theorem sX6_readNot_5_L6 (fu : Nat) (hfu : 1180591620717411303424 ≤ fu) (p1 : Int32) (g0 : Nat → Nat → Int32) (L0 : Nat → Nat → Int64) (hI : zI XT g0) (hJ : pJ g0) (hp1 : (1 ≤ (Int32.toInt p1) ∧ (Int32.toInt p1) ≤ 1)) : Ex (fX6_readNot_5 fu (fX6_readExpr_5 fu 5) p1 g0 L0) (fun (r : Unit) (g1 : Nat → Nat → Int32) (L1 : Nat → Nat → Int64) => zI XT g1 ∧ pJ g1 ∧ g1 2 2 = g0 2 2 ∧ g1 0 13 = g0 0 13) := by
  have k0_0 : g0 2 2 = g0 2 2 := rfl
  have k0_1 : g0 0 13 = g0 0 13 := rfl
  unfold fX6_readNot_5
  have lp2 : ∀ (v1 : Int32) (v2 : Int32) (g : Nat → Nat → Int32) (L : Nat → Nat → Int64), (1 ≤ (Int32.toInt v1) ∧ (Int32.toInt v1) ≤ 1) → (0 ≤ (Int32.toInt v2) ∧ (Int32.toInt v2) ≤ 6) → zI XT g → pJ g → g 2 2 = g0 2 2 → g 0 13 = g0 0 13 → Ex (fX6_readNot_5_l2 fu (fX6_readExpr_5 fu 5) v1 v2 g L) (fun (r : Unit) (g1 : Nat → Nat → Int32) (L1 : Nat → Nat → Int64) => zI XT g1 ∧ pJ g1 ∧ g1 2 2 = g0 2 2 ∧ g1 0 13 = g0 0 13) := by
    intro v1 v2 g L hb_v1 hb_v2 hI hJ k0_0 k0_1
    unfold fX6_readNot_5_l2
    refine Ex.loop (fun v => ((1 ≤ (Int32.toInt v1) ∧ (Int32.toInt v1) ≤ 1)) ∧ ((0 ≤ (Int32.toInt (v.1)) ∧ (Int32.toInt (v.1)) ≤ 6)) ∧ (zI XT (v.2.1)) ∧ (pJ (v.2.1)) ∧ ((v.2.1) 2 2 = g0 2 2) ∧ ((v.2.1) 0 13 = g0 0 13)) (fun v => 7 - (Int32.toInt (v.1))) (by omega) (by show 7 - (Int32.toInt v2) < (fu : Int); omega) ⟨hb_v1, hb_v2, hI, hJ, k0_0, k0_1⟩ (fun k2 v hv ih2 => ?_)
    obtain ⟨v2, g, L⟩ := v
    obtain ⟨hb_v1, hb_v2, hI, hJ, k0_0, k0_1⟩ := hv
    have hb_v1 : (1 ≤ (Int32.toInt v1) ∧ (Int32.toInt v1) ≤ 1) := hb_v1
    have hb_v2 : (0 ≤ (Int32.toInt v2) ∧ (Int32.toInt v2) ≤ 6) := hb_v2
    have hI : zI XT g := hI
    have hJ : pJ g := hJ
    have k0_0 : g 2 2 = g0 2 2 := k0_0
    have k0_1 : g 0 13 = g0 0 13 := k0_1
    have ih2 : ∀ v' : Int32 × (Nat → Nat → Int32) × (Nat → Nat → Int64), (((1 ≤ (Int32.toInt v1) ∧ (Int32.toInt v1) ≤ 1)) ∧ ((0 ≤ (Int32.toInt (v'.1)) ∧ (Int32.toInt (v'.1)) ≤ 6)) ∧ (zI XT (v'.2.1)) ∧ (pJ (v'.2.1)) ∧ ((v'.2.1) 2 2 = g0 2 2) ∧ ((v'.2.1) 0 13 = g0 0 13)) → 7 - (Int32.toInt (v'.1)) < 7 - (Int32.toInt v2) → 0 < 7 - (Int32.toInt v2) → Ex (k2 v') (fun (r : Unit) (g1 : Nat → Nat → Int32) (L1 : Nat → Nat → Int64) => zI XT g1 ∧ pJ g1 ∧ g1 2 2 = g0 2 2 ∧ g1 0 13 = g0 0 13) := ih2
    show Ex (fX6_readNot_5_s2 fu (fX6_readExpr_5 fu 5) v1 k2 v2 g L) (fun (r : Unit) (g1 : Nat → Nat → Int32) (L1 : Nat → Nat → Int64) => zI XT g1 ∧ pJ g1 ∧ g1 2 2 = g0 2 2 ∧ g1 0 13 = g0 0 13)
    unfold fX6_readNot_5_s2
    have J27 : ∀ (v1 : Int32) (v2 : Int32) (g : Nat → Nat → Int32) (L : Nat → Nat → Int64), (1 ≤ (Int32.toInt v1) ∧ (Int32.toInt v1) ≤ 1) → (0 ≤ (Int32.toInt v2) ∧ (Int32.toInt v2) ≤ 6) → zI XT g → pJ g → g 2 2 = g0 2 2 → g 0 13 = g0 0 13 → Ex (fX6_readNot_5_p27 fu (fX6_readExpr_5 fu 5) v1 v2 g L) (fun (r : Unit) (g1 : Nat → Nat → Int32) (L1 : Nat → Nat → Int64) => zI XT g1 ∧ pJ g1 ∧ g1 2 2 = g0 2 2 ∧ g1 0 13 = g0 0 13) := by
      intro v1 v2 g L hb_v1 hb_v2 hI hJ k0_0 k0_1
      unfold fX6_readNot_5_p27
      refine Ex.cb (sX6_isWord_5_not fu hfu g L hI hJ) (fun x1 g2 L3 hq5 => ?_)
      obtain ⟨hI, hJ, kk0, kk1, rb_⟩ := hq5
      have b6 : 0 ≤ (Int32.toInt x1) ∧ (Int32.toInt x1) ≤ 1 := rb_
      have hI : zI XT g2 := hI
      have hJ : pJ g2 := hJ
      have k0_0 : g2 2 2 = g0 2 2 := kk0.trans k0_0
      have k0_1 : g2 0 13 = g0 0 13 := kk1.trans k0_1
      have J47 : ∀ (v1 : Int32) (v2 : Int32) (g : Nat → Nat → Int32) (L : Nat → Nat → Int64), (1 ≤ (Int32.toInt v1) ∧ (Int32.toInt v1) ≤ 1) → (0 ≤ (Int32.toInt v2) ∧ (Int32.toInt v2) ≤ 6) → zI XT g → pJ g → g 2 2 = g0 2 2 → g 0 13 = g0 0 13 → Ex (fX6_readNot_5_p47 fu (fX6_readExpr_5 fu 5) v1 v2 g L) (fun (r : Unit) (g1 : Nat → Nat → Int32) (L1 : Nat → Nat → Int64) => zI XT g1 ∧ pJ g1 ∧ g1 2 2 = g0 2 2 ∧ g1 0 13 = g0 0 13) := by
        intro v1 v2 g L hb_v1 hb_v2 hI hJ k0_0 k0_1
        unfold fX6_readNot_5_p47
        refine Ex.cb (sX6_readTest_5_L6 fu hfu v1 g L hI hJ (by omega)) (fun x7 g8 L9 hq11 => ?_)
        obtain ⟨hI, hJ, kk0, kk1⟩ := hq11
        have hI : zI XT g8 := hI
        have hJ : pJ g8 := hJ
        have k0_0 : g8 2 2 = g0 2 2 := kk0.trans k0_0
        have k0_1 : g8 0 13 = g0 0 13 := kk1.trans k0_1
        have lp54 : ∀ (v2 : Int32) (v3 : Int32) (g : Nat → Nat → Int32) (L : Nat → Nat → Int64), (0 ≤ (Int32.toInt v2) ∧ (Int32.toInt v2) ≤ 6) → (0 ≤ (Int32.toInt v3) ∧ (Int32.toInt v3) ≤ 6) → zI XT g → pJ g → g 2 2 = g0 2 2 → g 0 13 = g0 0 13 → Ex (fX6_readNot_5_l54 fu (fX6_readExpr_5 fu 5) v2 v3 g L) (fun (r : Unit) (g1 : Nat → Nat → Int32) (L1 : Nat → Nat → Int64) => zI XT g1 ∧ pJ g1 ∧ g1 2 2 = g0 2 2 ∧ g1 0 13 = g0 0 13) := by
          intro v2 v3 g L hb_v2 hb_v3 hI hJ k0_0 k0_1
          unfold fX6_readNot_5_l54
          refine Ex.loop (fun v => ((0 ≤ (Int32.toInt v2) ∧ (Int32.toInt v2) ≤ 6)) ∧ ((0 ≤ (Int32.toInt (v.1)) ∧ (Int32.toInt (v.1)) ≤ 6)) ∧ (zI XT (v.2.1)) ∧ (pJ (v.2.1)) ∧ ((v.2.1) 2 2 = g0 2 2) ∧ ((v.2.1) 0 13 = g0 0 13)) (fun v => 7 - (Int32.toInt (v.1))) (by omega) (by show 7 - (Int32.toInt v3) < (fu : Int); omega) ⟨hb_v2, hb_v3, hI, hJ, k0_0, k0_1⟩ (fun k54 v hv ih54 => ?_)
          obtain ⟨v3, g, L⟩ := v
          obtain ⟨hb_v2, hb_v3, hI, hJ, k0_0, k0_1⟩ := hv
          have hb_v2 : (0 ≤ (Int32.toInt v2) ∧ (Int32.toInt v2) ≤ 6) := hb_v2
          have hb_v3 : (0 ≤ (Int32.toInt v3) ∧ (Int32.toInt v3) ≤ 6) := hb_v3
          have hI : zI XT g := hI
          have hJ : pJ g := hJ
          have k0_0 : g 2 2 = g0 2 2 := k0_0
          have k0_1 : g 0 13 = g0 0 13 := k0_1
          have ih54 : ∀ v' : Int32 × (Nat → Nat → Int32) × (Nat → Nat → Int64), (((0 ≤ (Int32.toInt v2) ∧ (Int32.toInt v2) ≤ 6)) ∧ ((0 ≤ (Int32.toInt (v'.1)) ∧ (Int32.toInt (v'.1)) ≤ 6)) ∧ (zI XT (v'.2.1)) ∧ (pJ (v'.2.1)) ∧ ((v'.2.1) 2 2 = g0 2 2) ∧ ((v'.2.1) 0 13 = g0 0 13)) → 7 - (Int32.toInt (v'.1)) < 7 - (Int32.toInt v3) → 0 < 7 - (Int32.toInt v3) → Ex (k54 v') (fun (r : Unit) (g1 : Nat → Nat → Int32) (L1 : Nat → Nat → Int64) => zI XT g1 ∧ pJ g1 ∧ g1 2 2 = g0 2 2 ∧ g1 0 13 = g0 0 13) := ih54
          show Ex (fX6_readNot_5_s54 fu (fX6_readExpr_5 fu 5) v2 k54 v3 g L) (fun (r : Unit) (g1 : Nat → Nat → Int32) (L1 : Nat → Nat → Int64) => zI XT g1 ∧ pJ g1 ∧ g1 2 2 = g0 2 2 ∧ g1 0 13 = g0 0 13)
          unfold fX6_readNot_5_s54
          refine Ex.ite (fun c12 => ?_) (fun c12 => ?_)
          ·
            have c12 := icc_le (m := (Int32.toInt v2)) (n := (Int32.toInt v3)) rfl rfl c12
            exact Ex.ret ⟨hI, hJ, k0_0, k0_1⟩
          ·
            have c12 := icc_nle (m := (Int32.toInt v2)) (n := (Int32.toInt v3)) rfl rfl c12
            refine Ex.cb (sX8_add_4 fu hfu (-15) g L hI hJ) (fun x13 g14 L15 hq17 => ?_)
            obtain ⟨hI, hJ, kk0, kk1⟩ := hq17
            have hI : zI XT g14 := hI
            have hJ : pJ g14 := hJ
            have k0_0 : g14 2 2 = g0 2 2 := kk0.trans k0_0
            have k0_1 : g14 0 13 = g0 0 13 := kk1.trans k0_1
            generalize z18q : (v3 + 1) = z18
            have e19 : (Int32.toInt z18) = (Int32.toInt v3) + 1 := by rw [← z18q]; exact ic_addc rfl (by decide) (by omega) (by omega)
            exact ih54 (z18, g14, L15) ⟨(show (0 ≤ (Int32.toInt v2) ∧ (Int32.toInt v2) ≤ 6) from by omega), (show (0 ≤ (Int32.toInt z18) ∧ (Int32.toInt z18) ≤ 6) from by omega), hI, hJ, k0_0, k0_1⟩ (by show 7 - (Int32.toInt z18) < _; omega) (by omega)
        exact lp54 v2 0 g8 L9 (by omega) (by decide) hI hJ k0_0 k0_1
      refine Ex.ite (fun c20 => ?_) (fun c20 => ?_)
      ·
        have c20 := icc_eq (m := (Int32.toInt x1)) (n := 0) rfl (by decide) c20
        exact J47 v1 v2 g2 L3 (by omega) (by omega) hI hJ k0_0 k0_1
      ·
        have c20 := icc_neq (m := (Int32.toInt x1)) (n := 0) rfl (by decide) c20
        refine Ex.ite (fun c21 => ?_) (fun c21 => ?_)
        ·
          have c21 := icc_lt (m := (Int32.toInt v2)) (n := 6) rfl (by decide) c21
          exact J47 v1 v2 g2 L3 (by omega) (by omega) hI hJ k0_0 k0_1
        ·
          have c21 := icc_nlt (m := (Int32.toInt v2)) (n := 6) rfl (by decide) c21
          refine Ex.cb (sX6_refuse_5 fu hfu 2 g2 L3 hI hJ) (fun x22 g23 L24 hq26 => ?_)
          obtain ⟨hI, hJ, kk0, kk1⟩ := hq26
          have hI : zI XT g23 := hI
          have hJ : pJ g23 := hJ
          have k0_0 : g23 2 2 = g0 2 2 := kk0.trans k0_0
          have k0_1 : g23 0 13 = g0 0 13 := kk1.trans k0_1
          exact J47 v1 v2 g23 L24 (by omega) (by omega) hI hJ k0_0 k0_1
    refine Ex.ite (fun c27 => ?_) (fun c27 => ?_)
    ·
      have c27 := icc_le (m := 6) (n := (Int32.toInt v2)) (by decide) rfl c27
      exact J27 v1 v2 g L (by omega) (by omega) hI hJ k0_0 k0_1
    ·
      have c27 := icc_nle (m := 6) (n := (Int32.toInt v2)) (by decide) rfl c27
      refine Ex.cb (sX6_isWord_5_not fu hfu g L hI hJ) (fun x28 g29 L30 hq32 => ?_)
      obtain ⟨hI, hJ, kk0, kk1, rb_⟩ := hq32
      have b33 : 0 ≤ (Int32.toInt x28) ∧ (Int32.toInt x28) ≤ 1 := rb_
      have hI : zI XT g29 := hI
      have hJ : pJ g29 := hJ
      have k0_0 : g29 2 2 = g0 2 2 := kk0.trans k0_0
      have k0_1 : g29 0 13 = g0 0 13 := kk1.trans k0_1
      refine Ex.ite (fun c34 => ?_) (fun c34 => ?_)
      ·
        have c34 := icc_eq (m := (Int32.toInt x28)) (n := 0) rfl (by decide) c34
        exact J27 v1 v2 g29 L30 (by omega) (by omega) hI hJ k0_0 k0_1
      ·
        have c34 := icc_neq (m := (Int32.toInt x28)) (n := 0) rfl (by decide) c34
        generalize z35q : (v2 + 1) = z35
        have e36 : (Int32.toInt z35) = (Int32.toInt v2) + 1 := by rw [← z35q]; exact ic_addc rfl (by decide) (by omega) (by omega)
        refine Ex.cb (sX6_advance_5 fu hfu g29 L30 hI hJ) (fun x37 g38 L39 hq41 => ?_)
        obtain ⟨hI, hJ, kk0, kk1⟩ := hq41
        have hI : zI XT g38 := hI
        have hJ : pJ g38 := hJ
        have k0_0 : g38 2 2 = g0 2 2 := kk0.trans k0_0
        have k0_1 : g38 0 13 = g0 0 13 := kk1.trans k0_1
        exact ih2 (z35, g38, L39) ⟨(show (1 ≤ (Int32.toInt v1) ∧ (Int32.toInt v1) ≤ 1) from by omega), (show (0 ≤ (Int32.toInt z35) ∧ (Int32.toInt z35) ≤ 6) from by omega), hI, hJ, k0_0, k0_1⟩ (by show 7 - (Int32.toInt z35) < _; omega) (by omega)
  exact lp2 p1 0 g0 L0 (by omega) (by decide) hI hJ k0_0 k0_1
set_option maxHeartbeats 4000000 in
set_option maxRecDepth 100000 in
theorem sX6_readAnd_5_L6 (fu : Nat) (hfu : 1180591620717411303424 ≤ fu) (p1 : Int32) (g0 : Nat → Nat → Int32) (L0 : Nat → Nat → Int64) (hI : zI XT g0) (hJ : pJ g0) (hp1 : (1 ≤ (Int32.toInt p1) ∧ (Int32.toInt p1) ≤ 1)) : Ex (fX6_readAnd_5 fu (fX6_readExpr_5 fu 5) p1 g0 L0) (fun (r : Unit) (g1 : Nat → Nat → Int32) (L1 : Nat → Nat → Int64) => zI XT g1 ∧ pJ g1 ∧ g1 2 2 = g0 2 2 ∧ g1 0 13 = g0 0 13) := by
  have k0_0 : g0 2 2 = g0 2 2 := rfl
  have k0_1 : g0 0 13 = g0 0 13 := rfl
  unfold fX6_readAnd_5
  refine Ex.cb (sX6_readNot_5_L6 fu hfu p1 g0 L0 hI hJ (by omega)) (fun x1 g2 L3 hq5 => ?_)
  obtain ⟨hI, hJ, kk0, kk1⟩ := hq5
  have hI : zI XT g2 := hI
  have hJ : pJ g2 := hJ
  have k0_0 : g2 2 2 = g0 2 2 := kk0.trans k0_0
  have k0_1 : g2 0 13 = g0 0 13 := kk1.trans k0_1
  have lp7 : ∀ (v1 : Int32) (v2 : Int32) (g : Nat → Nat → Int32) (L : Nat → Nat → Int64), (1 ≤ (Int32.toInt v1) ∧ (Int32.toInt v1) ≤ 1) → (0 ≤ (Int32.toInt v2) ∧ (Int32.toInt v2) ≤ 700) → zI XT g → pJ g → g 2 2 = g0 2 2 → g 0 13 = g0 0 13 → Ex (fX6_readAnd_5_l7 fu (fX6_readExpr_5 fu 5) v1 v2 g L) (fun (r : Unit) (g1 : Nat → Nat → Int32) (L1 : Nat → Nat → Int64) => zI XT g1 ∧ pJ g1 ∧ g1 2 2 = g0 2 2 ∧ g1 0 13 = g0 0 13) := by
    intro v1 v2 g L hb_v1 hb_v2 hI hJ k0_0 k0_1
    unfold fX6_readAnd_5_l7
    refine Ex.loop (fun v => ((1 ≤ (Int32.toInt v1) ∧ (Int32.toInt v1) ≤ 1)) ∧ ((0 ≤ (Int32.toInt (v.1)) ∧ (Int32.toInt (v.1)) ≤ 700)) ∧ (zI XT (v.2.1)) ∧ (pJ (v.2.1)) ∧ ((v.2.1) 2 2 = g0 2 2) ∧ ((v.2.1) 0 13 = g0 0 13)) (fun v => 701 - (Int32.toInt (v.1))) (by omega) (by show 701 - (Int32.toInt v2) < (fu : Int); omega) ⟨hb_v1, hb_v2, hI, hJ, k0_0, k0_1⟩ (fun k7 v hv ih7 => ?_)
    obtain ⟨v2, g, L⟩ := v
    obtain ⟨hb_v1, hb_v2, hI, hJ, k0_0, k0_1⟩ := hv
    have hb_v1 : (1 ≤ (Int32.toInt v1) ∧ (Int32.toInt v1) ≤ 1) := hb_v1
    have hb_v2 : (0 ≤ (Int32.toInt v2) ∧ (Int32.toInt v2) ≤ 700) := hb_v2
    have hI : zI XT g := hI
    have hJ : pJ g := hJ
    have k0_0 : g 2 2 = g0 2 2 := k0_0
    have k0_1 : g 0 13 = g0 0 13 := k0_1
    have ih7 : ∀ v' : Int32 × (Nat → Nat → Int32) × (Nat → Nat → Int64), (((1 ≤ (Int32.toInt v1) ∧ (Int32.toInt v1) ≤ 1)) ∧ ((0 ≤ (Int32.toInt (v'.1)) ∧ (Int32.toInt (v'.1)) ≤ 700)) ∧ (zI XT (v'.2.1)) ∧ (pJ (v'.2.1)) ∧ ((v'.2.1) 2 2 = g0 2 2) ∧ ((v'.2.1) 0 13 = g0 0 13)) → 701 - (Int32.toInt (v'.1)) < 701 - (Int32.toInt v2) → 0 < 701 - (Int32.toInt v2) → Ex (k7 v') (fun (r : Unit) (g1 : Nat → Nat → Int32) (L1 : Nat → Nat → Int64) => zI XT g1 ∧ pJ g1 ∧ g1 2 2 = g0 2 2 ∧ g1 0 13 = g0 0 13) := ih7
    show Ex (fX6_readAnd_5_s7 fu (fX6_readExpr_5 fu 5) v1 k7 v2 g L) (fun (r : Unit) (g1 : Nat → Nat → Int32) (L1 : Nat → Nat → Int64) => zI XT g1 ∧ pJ g1 ∧ g1 2 2 = g0 2 2 ∧ g1 0 13 = g0 0 13)
    unfold fX6_readAnd_5_s7
    have J50 : ∀ (g : Nat → Nat → Int32) (L : Nat → Nat → Int64), zI XT g → pJ g → g 2 2 = g0 2 2 → g 0 13 = g0 0 13 → Ex (fX6_readAnd_5_p50 fu (fX6_readExpr_5 fu 5) g L) (fun (r : Unit) (g1 : Nat → Nat → Int32) (L1 : Nat → Nat → Int64) => zI XT g1 ∧ pJ g1 ∧ g1 2 2 = g0 2 2 ∧ g1 0 13 = g0 0 13) := by
      intro g L hI hJ k0_0 k0_1
      unfold fX6_readAnd_5_p50
      exact Ex.ret ⟨hI, hJ, k0_0, k0_1⟩
    refine Ex.ite (fun c6 => ?_) (fun c6 => ?_)
    ·
      have c6 := icc_le (m := 700) (n := (Int32.toInt v2)) (by decide) rfl c6
      exact J50 g L hI hJ k0_0 k0_1
    ·
      have c6 := icc_nle (m := 700) (n := (Int32.toInt v2)) (by decide) rfl c6
      refine Ex.cb (sX6_isWord_5_and fu hfu g L hI hJ) (fun x7 g8 L9 hq11 => ?_)
      obtain ⟨hI, hJ, kk0, kk1, rb_⟩ := hq11
      have b12 : 0 ≤ (Int32.toInt x7) ∧ (Int32.toInt x7) ≤ 1 := rb_
      have hI : zI XT g8 := hI
      have hJ : pJ g8 := hJ
      have k0_0 : g8 2 2 = g0 2 2 := kk0.trans k0_0
      have k0_1 : g8 0 13 = g0 0 13 := kk1.trans k0_1
      refine Ex.ite (fun c13 => ?_) (fun c13 => ?_)
      ·
        have c13 := icc_eq (m := (Int32.toInt x7)) (n := 0) rfl (by decide) c13
        exact J50 g8 L9 hI hJ k0_0 k0_1
      ·
        have c13 := icc_neq (m := (Int32.toInt x7)) (n := 0) rfl (by decide) c13
        refine Ex.cb (sX6_advance_5 fu hfu g8 L9 hI hJ) (fun x14 g15 L16 hq18 => ?_)
        obtain ⟨hI, hJ, kk0, kk1⟩ := hq18
        have hI : zI XT g15 := hI
        have hJ : pJ g15 := hJ
        have k0_0 : g15 2 2 = g0 2 2 := kk0.trans k0_0
        have k0_1 : g15 0 13 = g0 0 13 := kk1.trans k0_1
        refine Ex.cb (sX6_readNot_5_L6 fu hfu v1 g15 L16 hI hJ (by omega)) (fun x19 g20 L21 hq23 => ?_)
        obtain ⟨hI, hJ, kk0, kk1⟩ := hq23
        have hI : zI XT g20 := hI
        have hJ : pJ g20 := hJ
        have k0_0 : g20 2 2 = g0 2 2 := kk0.trans k0_0
        have k0_1 : g20 0 13 = g0 0 13 := kk1.trans k0_1
        refine Ex.cb (sX8_add_4 fu hfu (-13) g20 L21 hI hJ) (fun x24 g25 L26 hq28 => ?_)
        obtain ⟨hI, hJ, kk0, kk1⟩ := hq28
        have hI : zI XT g25 := hI
        have hJ : pJ g25 := hJ
        have k0_0 : g25 2 2 = g0 2 2 := kk0.trans k0_0
        have k0_1 : g25 0 13 = g0 0 13 := kk1.trans k0_1
        generalize z29q : (v2 + 1) = z29
        have e30 : (Int32.toInt z29) = (Int32.toInt v2) + 1 := by rw [← z29q]; exact ic_addc rfl (by decide) (by omega) (by omega)
        exact ih7 (z29, g25, L26) ⟨(show (1 ≤ (Int32.toInt v1) ∧ (Int32.toInt v1) ≤ 1) from by omega), (show (0 ≤ (Int32.toInt z29) ∧ (Int32.toInt z29) ≤ 700) from by omega), hI, hJ, k0_0, k0_1⟩ (by show 701 - (Int32.toInt z29) < _; omega) (by omega)
  exact lp7 p1 0 g2 L3 (by omega) (by decide) hI hJ k0_0 k0_1
set_option maxHeartbeats 4000000 in
set_option maxRecDepth 100000 in
theorem sX6_readExpr_5_L6 (fu : Nat) (hfu : 1180591620717411303424 ≤ fu) (p1 : Int32) (g0 : Nat → Nat → Int32) (L0 : Nat → Nat → Int64) (hI : zI XT g0) (hJ : pJ g0) (hp1 : (1 ≤ (Int32.toInt p1) ∧ (Int32.toInt p1) ≤ 1)) : Ex (fX6_readExpr_5 fu 6 p1 g0 L0) (fun (r : Unit) (g1 : Nat → Nat → Int32) (L1 : Nat → Nat → Int64) => zI XT g1 ∧ pJ g1 ∧ g1 2 2 = g0 2 2 ∧ g1 0 13 = g0 0 13) := by
  have k0_0 : g0 2 2 = g0 2 2 := rfl
  have k0_1 : g0 0 13 = g0 0 13 := rfl
  rw [fX6_readExpr_5_succ]
  unfold fX6_readExpr_5B
  have J35 : ∀ (v1 : Int32) (g : Nat → Nat → Int32) (L : Nat → Nat → Int64), (1 ≤ (Int32.toInt v1) ∧ (Int32.toInt v1) ≤ 1) → zI XT g → pJ g → g 2 2 = g0 2 2 → g 0 13 = g0 0 13 → Ex (fX6_readExpr_5_p35 fu (fX6_readExpr_5 fu 5) v1 g L) (fun (r : Unit) (g1 : Nat → Nat → Int32) (L1 : Nat → Nat → Int64) => zI XT g1 ∧ pJ g1 ∧ g1 2 2 = g0 2 2 ∧ g1 0 13 = g0 0 13) := by
    intro v1 g L hb_v1 hI hJ k0_0 k0_1
    unfold fX6_readExpr_5_p35
    refine Ex.cb (sX6_readAnd_5_L6 fu hfu v1 g L hI hJ (by omega)) (fun x1 g2 L3 hq5 => ?_)
    obtain ⟨hI, hJ, kk0, kk1⟩ := hq5
    have hI : zI XT g2 := hI
    have hJ : pJ g2 := hJ
    have k0_0 : g2 2 2 = g0 2 2 := kk0.trans k0_0
    have k0_1 : g2 0 13 = g0 0 13 := kk1.trans k0_1
    have lp42 : ∀ (v1 : Int32) (v2 : Int32) (g : Nat → Nat → Int32) (L : Nat → Nat → Int64), (1 ≤ (Int32.toInt v1) ∧ (Int32.toInt v1) ≤ 1) → (0 ≤ (Int32.toInt v2) ∧ (Int32.toInt v2) ≤ 700) → zI XT g → pJ g → g 2 2 = g0 2 2 → g 0 13 = g0 0 13 → Ex (fX6_readExpr_5_l42 fu (fX6_readExpr_5 fu 5) v1 v2 g L) (fun (r : Unit) (g1 : Nat → Nat → Int32) (L1 : Nat → Nat → Int64) => zI XT g1 ∧ pJ g1 ∧ g1 2 2 = g0 2 2 ∧ g1 0 13 = g0 0 13) := by
      intro v1 v2 g L hb_v1 hb_v2 hI hJ k0_0 k0_1
      unfold fX6_readExpr_5_l42
      refine Ex.loop (fun v => ((1 ≤ (Int32.toInt v1) ∧ (Int32.toInt v1) ≤ 1)) ∧ ((0 ≤ (Int32.toInt (v.1)) ∧ (Int32.toInt (v.1)) ≤ 700)) ∧ (zI XT (v.2.1)) ∧ (pJ (v.2.1)) ∧ ((v.2.1) 2 2 = g0 2 2) ∧ ((v.2.1) 0 13 = g0 0 13)) (fun v => 701 - (Int32.toInt (v.1))) (by omega) (by show 701 - (Int32.toInt v2) < (fu : Int); omega) ⟨hb_v1, hb_v2, hI, hJ, k0_0, k0_1⟩ (fun k42 v hv ih42 => ?_)
      obtain ⟨v2, g, L⟩ := v
      obtain ⟨hb_v1, hb_v2, hI, hJ, k0_0, k0_1⟩ := hv
      have hb_v1 : (1 ≤ (Int32.toInt v1) ∧ (Int32.toInt v1) ≤ 1) := hb_v1
      have hb_v2 : (0 ≤ (Int32.toInt v2) ∧ (Int32.toInt v2) ≤ 700) := hb_v2
      have hI : zI XT g := hI
      have hJ : pJ g := hJ
      have k0_0 : g 2 2 = g0 2 2 := k0_0
      have k0_1 : g 0 13 = g0 0 13 := k0_1
      have ih42 : ∀ v' : Int32 × (Nat → Nat → Int32) × (Nat → Nat → Int64), (((1 ≤ (Int32.toInt v1) ∧ (Int32.toInt v1) ≤ 1)) ∧ ((0 ≤ (Int32.toInt (v'.1)) ∧ (Int32.toInt (v'.1)) ≤ 700)) ∧ (zI XT (v'.2.1)) ∧ (pJ (v'.2.1)) ∧ ((v'.2.1) 2 2 = g0 2 2) ∧ ((v'.2.1) 0 13 = g0 0 13)) → 701 - (Int32.toInt (v'.1)) < 701 - (Int32.toInt v2) → 0 < 701 - (Int32.toInt v2) → Ex (k42 v') (fun (r : Unit) (g1 : Nat → Nat → Int32) (L1 : Nat → Nat → Int64) => zI XT g1 ∧ pJ g1 ∧ g1 2 2 = g0 2 2 ∧ g1 0 13 = g0 0 13) := ih42
      show Ex (fX6_readExpr_5_s42 fu (fX6_readExpr_5 fu 5) v1 k42 v2 g L) (fun (r : Unit) (g1 : Nat → Nat → Int32) (L1 : Nat → Nat → Int64) => zI XT g1 ∧ pJ g1 ∧ g1 2 2 = g0 2 2 ∧ g1 0 13 = g0 0 13)
      unfold fX6_readExpr_5_s42
      have J85 : ∀ (g : Nat → Nat → Int32) (L : Nat → Nat → Int64), zI XT g → pJ g → g 2 2 = g0 2 2 → g 0 13 = g0 0 13 → Ex (fX6_readExpr_5_p85 fu (fX6_readExpr_5 fu 5) g L) (fun (r : Unit) (g1 : Nat → Nat → Int32) (L1 : Nat → Nat → Int64) => zI XT g1 ∧ pJ g1 ∧ g1 2 2 = g0 2 2 ∧ g1 0 13 = g0 0 13) := by
        intro g L hI hJ k0_0 k0_1
        unfold fX6_readExpr_5_p85
        exact Ex.ret ⟨hI, hJ, k0_0, k0_1⟩
      refine Ex.ite (fun c6 => ?_) (fun c6 => ?_)
      ·
        have c6 := icc_le (m := 700) (n := (Int32.toInt v2)) (by decide) rfl c6
        exact J85 g L hI hJ k0_0 k0_1
      ·
        have c6 := icc_nle (m := 700) (n := (Int32.toInt v2)) (by decide) rfl c6
        refine Ex.cb (sX6_isWord_5_or fu hfu g L hI hJ) (fun x7 g8 L9 hq11 => ?_)
        obtain ⟨hI, hJ, kk0, kk1, rb_⟩ := hq11
        have b12 : 0 ≤ (Int32.toInt x7) ∧ (Int32.toInt x7) ≤ 1 := rb_
        have hI : zI XT g8 := hI
        have hJ : pJ g8 := hJ
        have k0_0 : g8 2 2 = g0 2 2 := kk0.trans k0_0
        have k0_1 : g8 0 13 = g0 0 13 := kk1.trans k0_1
        refine Ex.ite (fun c13 => ?_) (fun c13 => ?_)
        ·
          have c13 := icc_eq (m := (Int32.toInt x7)) (n := 0) rfl (by decide) c13
          exact J85 g8 L9 hI hJ k0_0 k0_1
        ·
          have c13 := icc_neq (m := (Int32.toInt x7)) (n := 0) rfl (by decide) c13
          refine Ex.cb (sX6_advance_5 fu hfu g8 L9 hI hJ) (fun x14 g15 L16 hq18 => ?_)
          obtain ⟨hI, hJ, kk0, kk1⟩ := hq18
          have hI : zI XT g15 := hI
          have hJ : pJ g15 := hJ
          have k0_0 : g15 2 2 = g0 2 2 := kk0.trans k0_0
          have k0_1 : g15 0 13 = g0 0 13 := kk1.trans k0_1
          refine Ex.cb (sX6_readAnd_5_L6 fu hfu v1 g15 L16 hI hJ (by omega)) (fun x19 g20 L21 hq23 => ?_)
          obtain ⟨hI, hJ, kk0, kk1⟩ := hq23
          have hI : zI XT g20 := hI
          have hJ : pJ g20 := hJ
          have k0_0 : g20 2 2 = g0 2 2 := kk0.trans k0_0
          have k0_1 : g20 0 13 = g0 0 13 := kk1.trans k0_1
          refine Ex.cb (sX8_add_4 fu hfu (-14) g20 L21 hI hJ) (fun x24 g25 L26 hq28 => ?_)
          obtain ⟨hI, hJ, kk0, kk1⟩ := hq28
          have hI : zI XT g25 := hI
          have hJ : pJ g25 := hJ
          have k0_0 : g25 2 2 = g0 2 2 := kk0.trans k0_0
          have k0_1 : g25 0 13 = g0 0 13 := kk1.trans k0_1
          generalize z29q : (v2 + 1) = z29
          have e30 : (Int32.toInt z29) = (Int32.toInt v2) + 1 := by rw [← z29q]; exact ic_addc rfl (by decide) (by omega) (by omega)
          exact ih42 (z29, g25, L26) ⟨(show (1 ≤ (Int32.toInt v1) ∧ (Int32.toInt v1) ≤ 1) from by omega), (show (0 ≤ (Int32.toInt z29) ∧ (Int32.toInt z29) ≤ 700) from by omega), hI, hJ, k0_0, k0_1⟩ (by show 701 - (Int32.toInt z29) < _; omega) (by omega)
    exact lp42 v1 0 g2 L3 (by omega) (by decide) hI hJ k0_0 k0_1
  refine Ex.ite (fun c31 => ?_) (fun c31 => ?_)
  ·
    have c31 := icc_le (m := (Int32.toInt p1)) (n := 5) rfl (by decide) c31
    exact J35 p1 g0 L0 (by omega) hI hJ k0_0 k0_1
  ·
    have c31 := icc_nle (m := (Int32.toInt p1)) (n := 5) rfl (by decide) c31
    omega
set_option maxHeartbeats 4000000 in
set_option maxRecDepth 100000 in
theorem sX6_readPart_5_L7 (fu : Nat) (hfu : 1180591620717411303424 ≤ fu) (p1 : Int32) (g0 : Nat → Nat → Int32) (L0 : Nat → Nat → Int64) (hI : zI XT g0) (hJ : pJ g0) (hp1 : (0 ≤ (Int32.toInt p1) ∧ (Int32.toInt p1) ≤ 0)) : Ex (fX6_readPart_5 fu (fX6_readExpr_5 fu 6) p1 g0 L0) (fun (r : Unit) (g1 : Nat → Nat → Int32) (L1 : Nat → Nat → Int64) => zI XT g1 ∧ pJ g1 ∧ g1 2 2 = g0 2 2 ∧ g1 0 13 = g0 0 13) := by
  have k0_0 : g0 2 2 = g0 2 2 := rfl
  have k0_1 : g0 0 13 = g0 0 13 := rfl
  unfold fX6_readPart_5
  have J111 : ∀ (g : Nat → Nat → Int32) (L : Nat → Nat → Int64), zI XT g → pJ g → g 2 2 = g0 2 2 → g 0 13 = g0 0 13 → Ex (fX6_readPart_5_p111 fu (fX6_readExpr_5 fu 6) g L) (fun (r : Unit) (g1 : Nat → Nat → Int32) (L1 : Nat → Nat → Int64) => zI XT g1 ∧ pJ g1 ∧ g1 2 2 = g0 2 2 ∧ g1 0 13 = g0 0 13) := by
    intro g L hI hJ k0_0 k0_1
    unfold fX6_readPart_5_p111
    exact Ex.ret ⟨hI, hJ, k0_0, k0_1⟩
  refine Ex.ite (fun c1 => ?_) (fun c1 => ?_)
  ·
    have c1 := icc_eq (m := (Int32.toInt (g0 5 4))) (n := 1) rfl (by decide) c1
    refine Ex.cb (sX6_readNumber_5 fu hfu 0 9999 g0 L0 hI hJ) (fun x2 g3 L4 hq6 => ?_)
    obtain ⟨hI, hJ, kk0, kk1, rb_⟩ := hq6
    have b7 : 0 ≤ (Int32.toInt x2) ∧ (Int32.toInt x2) ≤ 9999 := rb_
    have hI : zI XT g3 := hI
    have hJ : pJ g3 := hJ
    have k0_0 : g3 2 2 = g0 2 2 := kk0.trans k0_0
    have k0_1 : g3 0 13 = g0 0 13 := kk1.trans k0_1
    refine Ex.cb (sX8_add_4 fu hfu x2 g3 L4 hI hJ) (fun x8 g9 L10 hq12 => ?_)
    obtain ⟨hI, hJ, kk0, kk1⟩ := hq12
    have hI : zI XT g9 := hI
    have hJ : pJ g9 := hJ
    have k0_0 : g9 2 2 = g0 2 2 := kk0.trans k0_0
    have k0_1 : g9 0 13 = g0 0 13 := kk1.trans k0_1
    exact J111 g9 L10 hI hJ k0_0 k0_1
  ·
    have c1 := icc_neq (m := (Int32.toInt (g0 5 4))) (n := 1) rfl (by decide) c1
    refine Ex.ite (fun c13 => ?_) (fun c13 => ?_)
    ·
      have c13 := icc_eq (m := (Int32.toInt (g0 5 4))) (n := 2) rfl (by decide) c13
      refine Ex.cb (sX6_valueNow_5 fu hfu g0 L0 hI hJ) (fun x14 g15 L16 hq18 => ?_)
      obtain ⟨hI, hJ, kk0, kk1, rb_⟩ := hq18
      have b19 : (-1) ≤ (Int32.toInt x14) ∧ (Int32.toInt x14) ≤ 5 := rb_
      have hI : zI XT g15 := hI
      have hJ : pJ g15 := hJ
      have k0_0 : g15 2 2 = g0 2 2 := kk0.trans k0_0
      have k0_1 : g15 0 13 = g0 0 13 := kk1.trans k0_1
      have J52 : ∀ (v2 : Int32) (g : Nat → Nat → Int32) (L : Nat → Nat → Int64), ((-1) ≤ (Int32.toInt v2) ∧ (Int32.toInt v2) ≤ 5) → zI XT g → pJ g → g 2 2 = g0 2 2 → g 0 13 = g0 0 13 → Ex (fX6_readPart_5_p52 fu (fX6_readExpr_5 fu 6) v2 g L) (fun (r : Unit) (g1 : Nat → Nat → Int32) (L1 : Nat → Nat → Int64) => zI XT g1 ∧ pJ g1 ∧ g1 2 2 = g0 2 2 ∧ g1 0 13 = g0 0 13) := by
        intro v2 g L hb_v2 hI hJ k0_0 k0_1
        unfold fX6_readPart_5_p52
        generalize z20q : ((-1) - v2) = z20
        have e21 : (Int32.toInt z20) = (-1) - (Int32.toInt v2) := by rw [← z20q]; exact ic_subc (by decide) rfl (by omega) (by omega)
        refine Ex.cb (sX8_add_4 fu hfu z20 g L hI hJ) (fun x22 g23 L24 hq26 => ?_)
        obtain ⟨hI, hJ, kk0, kk1⟩ := hq26
        have hI : zI XT g23 := hI
        have hJ : pJ g23 := hJ
        have k0_0 : g23 2 2 = g0 2 2 := kk0.trans k0_0
        have k0_1 : g23 0 13 = g0 0 13 := kk1.trans k0_1
        refine Ex.cb (sX6_advance_5 fu hfu g23 L24 hI hJ) (fun x27 g28 L29 hq31 => ?_)
        obtain ⟨hI, hJ, kk0, kk1⟩ := hq31
        have hI : zI XT g28 := hI
        have hJ : pJ g28 := hJ
        have k0_0 : g28 2 2 = g0 2 2 := kk0.trans k0_0
        have k0_1 : g28 0 13 = g0 0 13 := kk1.trans k0_1
        exact J111 g28 L29 hI hJ k0_0 k0_1
      refine Ex.ite (fun c32 => ?_) (fun c32 => ?_)
      ·
        have c32 := icc_eq (m := (Int32.toInt x14)) (n := (-1)) rfl (by decide) c32
        refine Ex.cb (sX6_refuse_5 fu hfu 3 g15 L16 hI hJ) (fun x33 g34 L35 hq37 => ?_)
        obtain ⟨hI, hJ, kk0, kk1⟩ := hq37
        have hI : zI XT g34 := hI
        have hJ : pJ g34 := hJ
        have k0_0 : g34 2 2 = g0 2 2 := kk0.trans k0_0
        have k0_1 : g34 0 13 = g0 0 13 := kk1.trans k0_1
        exact J52 x14 g34 L35 (by omega) hI hJ k0_0 k0_1
      ·
        have c32 := icc_neq (m := (Int32.toInt x14)) (n := (-1)) rfl (by decide) c32
        exact J52 x14 g15 L16 (by omega) hI hJ k0_0 k0_1
    ·
      have c13 := icc_neq (m := (Int32.toInt (g0 5 4))) (n := 2) rfl (by decide) c13
      refine Ex.cb (sX6_isSignNow_5 fu hfu 40 g0 L0 hI hJ) (fun x38 g39 L40 hq42 => ?_)
      obtain ⟨hI, hJ, kk0, kk1, rb_⟩ := hq42
      have b43 : 0 ≤ (Int32.toInt x38) ∧ (Int32.toInt x38) ≤ 1 := rb_
      have hI : zI XT g39 := hI
      have hJ : pJ g39 := hJ
      have k0_0 : g39 2 2 = g0 2 2 := kk0.trans k0_0
      have k0_1 : g39 0 13 = g0 0 13 := kk1.trans k0_1
      have J106 : ∀ (g : Nat → Nat → Int32) (L : Nat → Nat → Int64), zI XT g → pJ g → g 2 2 = g0 2 2 → g 0 13 = g0 0 13 → Ex (fX6_readPart_5_p106 fu (fX6_readExpr_5 fu 6) g L) (fun (r : Unit) (g1 : Nat → Nat → Int32) (L1 : Nat → Nat → Int64) => zI XT g1 ∧ pJ g1 ∧ g1 2 2 = g0 2 2 ∧ g1 0 13 = g0 0 13) := by
        intro g L hI hJ k0_0 k0_1
        unfold fX6_readPart_5_p106
        refine Ex.cb (sX6_refuse_5 fu hfu 1 g L hI hJ) (fun x44 g45 L46 hq48 => ?_)
        obtain ⟨hI, hJ, kk0, kk1⟩ := hq48
        have hI : zI XT g45 := hI
        have hJ : pJ g45 := hJ
        have k0_0 : g45 2 2 = g0 2 2 := kk0.trans k0_0
        have k0_1 : g45 0 13 = g0 0 13 := kk1.trans k0_1
        exact J111 g45 L46 hI hJ k0_0 k0_1
      refine Ex.ite (fun c49 => ?_) (fun c49 => ?_)
      ·
        have c49 := icc_eq (m := (Int32.toInt x38)) (n := 0) rfl (by decide) c49
        exact J106 g39 L40 hI hJ k0_0 k0_1
      ·
        have c49 := icc_neq (m := (Int32.toInt x38)) (n := 0) rfl (by decide) c49
        refine Ex.ite (fun c50 => ?_) (fun c50 => ?_)
        ·
          have c50 := icc_lt (m := 5) (n := (Int32.toInt p1)) (by decide) rfl c50
          omega
        ·
          have c50 := icc_nlt (m := 5) (n := (Int32.toInt p1)) (by decide) rfl c50
          refine Ex.cb (sX6_advance_5 fu hfu g39 L40 hI hJ) (fun x51 g52 L53 hq55 => ?_)
          obtain ⟨hI, hJ, kk0, kk1⟩ := hq55
          have hI : zI XT g52 := hI
          have hJ : pJ g52 := hJ
          have k0_0 : g52 2 2 = g0 2 2 := kk0.trans k0_0
          have k0_1 : g52 0 13 = g0 0 13 := kk1.trans k0_1
          generalize z56q : (p1 + 1) = z56
          have e57 : (Int32.toInt z56) = (Int32.toInt p1) + 1 := by rw [← z56q]; exact ic_addc rfl (by decide) (by omega) (by omega)
          refine Ex.cb (sX6_readExpr_5_L6 fu hfu z56 g52 L53 hI hJ (by omega)) (fun x58 g59 L60 hq62 => ?_)
          obtain ⟨hI, hJ, kk0, kk1⟩ := hq62
          have hI : zI XT g59 := hI
          have hJ : pJ g59 := hJ
          have k0_0 : g59 2 2 = g0 2 2 := kk0.trans k0_0
          have k0_1 : g59 0 13 = g0 0 13 := kk1.trans k0_1
          refine Ex.cb (sX6_readSign_5 fu hfu 41 g59 L60 hI hJ) (fun x63 g64 L65 hq67 => ?_)
          obtain ⟨hI, hJ, kk0, kk1⟩ := hq67
          have hI : zI XT g64 := hI
          have hJ : pJ g64 := hJ
          have k0_0 : g64 2 2 = g0 2 2 := kk0.trans k0_0
          have k0_1 : g64 0 13 = g0 0 13 := kk1.trans k0_1
          exact J111 g64 L65 hI hJ k0_0 k0_1
set_option maxHeartbeats 4000000 in
set_option maxRecDepth 100000 in
theorem sX6_readProduct_5_L7 (fu : Nat) (hfu : 1180591620717411303424 ≤ fu) (p1 : Int32) (g0 : Nat → Nat → Int32) (L0 : Nat → Nat → Int64) (hI : zI XT g0) (hJ : pJ g0) (hp1 : (0 ≤ (Int32.toInt p1) ∧ (Int32.toInt p1) ≤ 0)) : Ex (fX6_readProduct_5 fu (fX6_readExpr_5 fu 6) p1 g0 L0) (fun (r : Unit) (g1 : Nat → Nat → Int32) (L1 : Nat → Nat → Int64) => zI XT g1 ∧ pJ g1 ∧ g1 2 2 = g0 2 2 ∧ g1 0 13 = g0 0 13) := by
  have k0_0 : g0 2 2 = g0 2 2 := rfl
  have k0_1 : g0 0 13 = g0 0 13 := rfl
  unfold fX6_readProduct_5
  refine Ex.cb (sX6_readPart_5_L7 fu hfu p1 g0 L0 hI hJ (by omega)) (fun x1 g2 L3 hq5 => ?_)
  obtain ⟨hI, hJ, kk0, kk1⟩ := hq5
  have hI : zI XT g2 := hI
  have hJ : pJ g2 := hJ
  have k0_0 : g2 2 2 = g0 2 2 := kk0.trans k0_0
  have k0_1 : g2 0 13 = g0 0 13 := kk1.trans k0_1
  have lp7 : ∀ (v1 : Int32) (v2 : Int32) (g : Nat → Nat → Int32) (L : Nat → Nat → Int64), (0 ≤ (Int32.toInt v1) ∧ (Int32.toInt v1) ≤ 0) → (0 ≤ (Int32.toInt v2) ∧ (Int32.toInt v2) ≤ 700) → zI XT g → pJ g → g 2 2 = g0 2 2 → g 0 13 = g0 0 13 → Ex (fX6_readProduct_5_l7 fu (fX6_readExpr_5 fu 6) v1 v2 g L) (fun (r : Unit) (g1 : Nat → Nat → Int32) (L1 : Nat → Nat → Int64) => zI XT g1 ∧ pJ g1 ∧ g1 2 2 = g0 2 2 ∧ g1 0 13 = g0 0 13) := by
    intro v1 v2 g L hb_v1 hb_v2 hI hJ k0_0 k0_1
    unfold fX6_readProduct_5_l7
    refine Ex.loop (fun v => ((0 ≤ (Int32.toInt v1) ∧ (Int32.toInt v1) ≤ 0)) ∧ ((0 ≤ (Int32.toInt (v.1)) ∧ (Int32.toInt (v.1)) ≤ 700)) ∧ (zI XT (v.2.1)) ∧ (pJ (v.2.1)) ∧ ((v.2.1) 2 2 = g0 2 2) ∧ ((v.2.1) 0 13 = g0 0 13)) (fun v => 701 - (Int32.toInt (v.1))) (by omega) (by show 701 - (Int32.toInt v2) < (fu : Int); omega) ⟨hb_v1, hb_v2, hI, hJ, k0_0, k0_1⟩ (fun k7 v hv ih7 => ?_)
    obtain ⟨v2, g, L⟩ := v
    obtain ⟨hb_v1, hb_v2, hI, hJ, k0_0, k0_1⟩ := hv
    have hb_v1 : (0 ≤ (Int32.toInt v1) ∧ (Int32.toInt v1) ≤ 0) := hb_v1
    have hb_v2 : (0 ≤ (Int32.toInt v2) ∧ (Int32.toInt v2) ≤ 700) := hb_v2
    have hI : zI XT g := hI
    have hJ : pJ g := hJ
    have k0_0 : g 2 2 = g0 2 2 := k0_0
    have k0_1 : g 0 13 = g0 0 13 := k0_1
    have ih7 : ∀ v' : Int32 × (Nat → Nat → Int32) × (Nat → Nat → Int64), (((0 ≤ (Int32.toInt v1) ∧ (Int32.toInt v1) ≤ 0)) ∧ ((0 ≤ (Int32.toInt (v'.1)) ∧ (Int32.toInt (v'.1)) ≤ 700)) ∧ (zI XT (v'.2.1)) ∧ (pJ (v'.2.1)) ∧ ((v'.2.1) 2 2 = g0 2 2) ∧ ((v'.2.1) 0 13 = g0 0 13)) → 701 - (Int32.toInt (v'.1)) < 701 - (Int32.toInt v2) → 0 < 701 - (Int32.toInt v2) → Ex (k7 v') (fun (r : Unit) (g1 : Nat → Nat → Int32) (L1 : Nat → Nat → Int64) => zI XT g1 ∧ pJ g1 ∧ g1 2 2 = g0 2 2 ∧ g1 0 13 = g0 0 13) := ih7
    show Ex (fX6_readProduct_5_s7 fu (fX6_readExpr_5 fu 6) v1 k7 v2 g L) (fun (r : Unit) (g1 : Nat → Nat → Int32) (L1 : Nat → Nat → Int64) => zI XT g1 ∧ pJ g1 ∧ g1 2 2 = g0 2 2 ∧ g1 0 13 = g0 0 13)
    unfold fX6_readProduct_5_s7
    have J75 : ∀ (g : Nat → Nat → Int32) (L : Nat → Nat → Int64), zI XT g → pJ g → g 2 2 = g0 2 2 → g 0 13 = g0 0 13 → Ex (fX6_readProduct_5_p75 fu (fX6_readExpr_5 fu 6) g L) (fun (r : Unit) (g1 : Nat → Nat → Int32) (L1 : Nat → Nat → Int64) => zI XT g1 ∧ pJ g1 ∧ g1 2 2 = g0 2 2 ∧ g1 0 13 = g0 0 13) := by
      intro g L hI hJ k0_0 k0_1
      unfold fX6_readProduct_5_p75
      exact Ex.ret ⟨hI, hJ, k0_0, k0_1⟩
    refine Ex.ite (fun c6 => ?_) (fun c6 => ?_)
    ·
      have c6 := icc_le (m := 700) (n := (Int32.toInt v2)) (by decide) rfl c6
      exact J75 g L hI hJ k0_0 k0_1
    ·
      have c6 := icc_nle (m := 700) (n := (Int32.toInt v2)) (by decide) rfl c6
      refine Ex.cb (sX6_isSignNow_5 fu hfu 42 g L hI hJ) (fun x7 g8 L9 hq11 => ?_)
      obtain ⟨hI, hJ, kk0, kk1, rb_⟩ := hq11
      have b12 : 0 ≤ (Int32.toInt x7) ∧ (Int32.toInt x7) ≤ 1 := rb_
      have hI : zI XT g8 := hI
      have hJ : pJ g8 := hJ
      have k0_0 : g8 2 2 = g0 2 2 := kk0.trans k0_0
      have k0_1 : g8 0 13 = g0 0 13 := kk1.trans k0_1
      have J32 : ∀ (g : Nat → Nat → Int32) (L : Nat → Nat → Int64), (0 ≤ (Int32.toInt v1) ∧ (Int32.toInt v1) ≤ 0) → (0 ≤ (Int32.toInt v2) ∧ (Int32.toInt v2) ≤ 699) → zI XT g → pJ g → g 2 2 = g0 2 2 → g 0 13 = g0 0 13 → Ex (fX6_readProduct_5_p32 fu (fX6_readExpr_5 fu 6) k7 v1 v2 g L) (fun (r : Unit) (g1 : Nat → Nat → Int32) (L1 : Nat → Nat → Int64) => zI XT g1 ∧ pJ g1 ∧ g1 2 2 = g0 2 2 ∧ g1 0 13 = g0 0 13) := by
        intro g L hb_v1 hb_v2 hI hJ k0_0 k0_1
        unfold fX6_readProduct_5_p32
        refine Ex.cb (sX6_isSignNow_5 fu hfu 42 g L hI hJ) (fun x13 g14 L15 hq17 => ?_)
        obtain ⟨hI, hJ, kk0, kk1, rb_⟩ := hq17
        have b18 : 0 ≤ (Int32.toInt x13) ∧ (Int32.toInt x13) ≤ 1 := rb_
        have hI : zI XT g14 := hI
        have hJ : pJ g14 := hJ
        have k0_0 : g14 2 2 = g0 2 2 := kk0.trans k0_0
        have k0_1 : g14 0 13 = g0 0 13 := kk1.trans k0_1
        have J48 : ∀ (t0 : Int32) (g : Nat → Nat → Int32) (L : Nat → Nat → Int64), (0 ≤ (Int32.toInt v1) ∧ (Int32.toInt v1) ≤ 0) → (0 ≤ (Int32.toInt v2) ∧ (Int32.toInt v2) ≤ 699) → ((-10) ≤ (Int32.toInt t0) ∧ (Int32.toInt t0) ≤ (-9)) → zI XT g → pJ g → g 2 2 = g0 2 2 → g 0 13 = g0 0 13 → Ex (fX6_readProduct_5_p48 fu (fX6_readExpr_5 fu 6) k7 v1 v2 t0 g L) (fun (r : Unit) (g1 : Nat → Nat → Int32) (L1 : Nat → Nat → Int64) => zI XT g1 ∧ pJ g1 ∧ g1 2 2 = g0 2 2 ∧ g1 0 13 = g0 0 13) := by
          intro t0 g L hb_v1 hb_v2 hb_t0 hI hJ k0_0 k0_1
          unfold fX6_readProduct_5_p48
          refine Ex.cb (sX6_advance_5 fu hfu g L hI hJ) (fun x19 g20 L21 hq23 => ?_)
          obtain ⟨hI, hJ, kk0, kk1⟩ := hq23
          have hI : zI XT g20 := hI
          have hJ : pJ g20 := hJ
          have k0_0 : g20 2 2 = g0 2 2 := kk0.trans k0_0
          have k0_1 : g20 0 13 = g0 0 13 := kk1.trans k0_1
          refine Ex.cb (sX6_readPart_5_L7 fu hfu v1 g20 L21 hI hJ (by omega)) (fun x24 g25 L26 hq28 => ?_)
          obtain ⟨hI, hJ, kk0, kk1⟩ := hq28
          have hI : zI XT g25 := hI
          have hJ : pJ g25 := hJ
          have k0_0 : g25 2 2 = g0 2 2 := kk0.trans k0_0
          have k0_1 : g25 0 13 = g0 0 13 := kk1.trans k0_1
          refine Ex.cb (sX8_add_4 fu hfu t0 g25 L26 hI hJ) (fun x29 g30 L31 hq33 => ?_)
          obtain ⟨hI, hJ, kk0, kk1⟩ := hq33
          have hI : zI XT g30 := hI
          have hJ : pJ g30 := hJ
          have k0_0 : g30 2 2 = g0 2 2 := kk0.trans k0_0
          have k0_1 : g30 0 13 = g0 0 13 := kk1.trans k0_1
          generalize z34q : (v2 + 1) = z34
          have e35 : (Int32.toInt z34) = (Int32.toInt v2) + 1 := by rw [← z34q]; exact ic_addc rfl (by decide) (by omega) (by omega)
          exact ih7 (z34, g30, L31) ⟨(show (0 ≤ (Int32.toInt v1) ∧ (Int32.toInt v1) ≤ 0) from by omega), (show (0 ≤ (Int32.toInt z34) ∧ (Int32.toInt z34) ≤ 700) from by omega), hI, hJ, k0_0, k0_1⟩ (by show 701 - (Int32.toInt z34) < _; omega) (by omega)
        refine Ex.ite (fun c36 => ?_) (fun c36 => ?_)
        ·
          have c36 := icc_eq (m := (Int32.toInt x13)) (n := 0) rfl (by decide) c36
          exact J48 (-10) g14 L15 (by omega) (by omega) (by decide) hI hJ k0_0 k0_1
        ·
          have c36 := icc_neq (m := (Int32.toInt x13)) (n := 0) rfl (by decide) c36
          exact J48 (-9) g14 L15 (by omega) (by omega) (by decide) hI hJ k0_0 k0_1
      refine Ex.ite (fun c37 => ?_) (fun c37 => ?_)
      ·
        have c37 := icc_eq (m := (Int32.toInt x7)) (n := 0) rfl (by decide) c37
        refine Ex.cb (sX6_isSignNow_5 fu hfu 47 g8 L9 hI hJ) (fun x38 g39 L40 hq42 => ?_)
        obtain ⟨hI, hJ, kk0, kk1, rb_⟩ := hq42
        have b43 : 0 ≤ (Int32.toInt x38) ∧ (Int32.toInt x38) ≤ 1 := rb_
        have hI : zI XT g39 := hI
        have hJ : pJ g39 := hJ
        have k0_0 : g39 2 2 = g0 2 2 := kk0.trans k0_0
        have k0_1 : g39 0 13 = g0 0 13 := kk1.trans k0_1
        refine Ex.ite (fun c44 => ?_) (fun c44 => ?_)
        ·
          have c44 := icc_eq (m := (Int32.toInt x38)) (n := 0) rfl (by decide) c44
          exact J75 g39 L40 hI hJ k0_0 k0_1
        ·
          have c44 := icc_neq (m := (Int32.toInt x38)) (n := 0) rfl (by decide) c44
          exact J32 g39 L40 (by omega) (by omega) hI hJ k0_0 k0_1
      ·
        have c37 := icc_neq (m := (Int32.toInt x7)) (n := 0) rfl (by decide) c37
        exact J32 g8 L9 (by omega) (by omega) hI hJ k0_0 k0_1
  exact lp7 p1 0 g2 L3 (by omega) (by decide) hI hJ k0_0 k0_1
set_option maxHeartbeats 4000000 in
set_option maxRecDepth 100000 in
theorem sX6_readSum_5_L7 (fu : Nat) (hfu : 1180591620717411303424 ≤ fu) (p1 : Int32) (g0 : Nat → Nat → Int32) (L0 : Nat → Nat → Int64) (hI : zI XT g0) (hJ : pJ g0) (hp1 : (0 ≤ (Int32.toInt p1) ∧ (Int32.toInt p1) ≤ 0)) : Ex (fX6_readSum_5 fu (fX6_readExpr_5 fu 6) p1 g0 L0) (fun (r : Unit) (g1 : Nat → Nat → Int32) (L1 : Nat → Nat → Int64) => zI XT g1 ∧ pJ g1 ∧ g1 2 2 = g0 2 2 ∧ g1 0 13 = g0 0 13) := by
  have k0_0 : g0 2 2 = g0 2 2 := rfl
  have k0_1 : g0 0 13 = g0 0 13 := rfl
  unfold fX6_readSum_5
  refine Ex.cb (sX6_readProduct_5_L7 fu hfu p1 g0 L0 hI hJ (by omega)) (fun x1 g2 L3 hq5 => ?_)
  obtain ⟨hI, hJ, kk0, kk1⟩ := hq5
  have hI : zI XT g2 := hI
  have hJ : pJ g2 := hJ
  have k0_0 : g2 2 2 = g0 2 2 := kk0.trans k0_0
  have k0_1 : g2 0 13 = g0 0 13 := kk1.trans k0_1
  have lp7 : ∀ (v1 : Int32) (v2 : Int32) (g : Nat → Nat → Int32) (L : Nat → Nat → Int64), (0 ≤ (Int32.toInt v1) ∧ (Int32.toInt v1) ≤ 0) → (0 ≤ (Int32.toInt v2) ∧ (Int32.toInt v2) ≤ 700) → zI XT g → pJ g → g 2 2 = g0 2 2 → g 0 13 = g0 0 13 → Ex (fX6_readSum_5_l7 fu (fX6_readExpr_5 fu 6) v1 v2 g L) (fun (r : Unit) (g1 : Nat → Nat → Int32) (L1 : Nat → Nat → Int64) => zI XT g1 ∧ pJ g1 ∧ g1 2 2 = g0 2 2 ∧ g1 0 13 = g0 0 13) := by
    intro v1 v2 g L hb_v1 hb_v2 hI hJ k0_0 k0_1
    unfold fX6_readSum_5_l7
    refine Ex.loop (fun v => ((0 ≤ (Int32.toInt v1) ∧ (Int32.toInt v1) ≤ 0)) ∧ ((0 ≤ (Int32.toInt (v.1)) ∧ (Int32.toInt (v.1)) ≤ 700)) ∧ (zI XT (v.2.1)) ∧ (pJ (v.2.1)) ∧ ((v.2.1) 2 2 = g0 2 2) ∧ ((v.2.1) 0 13 = g0 0 13)) (fun v => 701 - (Int32.toInt (v.1))) (by omega) (by show 701 - (Int32.toInt v2) < (fu : Int); omega) ⟨hb_v1, hb_v2, hI, hJ, k0_0, k0_1⟩ (fun k7 v hv ih7 => ?_)
    obtain ⟨v2, g, L⟩ := v
    obtain ⟨hb_v1, hb_v2, hI, hJ, k0_0, k0_1⟩ := hv
    have hb_v1 : (0 ≤ (Int32.toInt v1) ∧ (Int32.toInt v1) ≤ 0) := hb_v1
    have hb_v2 : (0 ≤ (Int32.toInt v2) ∧ (Int32.toInt v2) ≤ 700) := hb_v2
    have hI : zI XT g := hI
    have hJ : pJ g := hJ
    have k0_0 : g 2 2 = g0 2 2 := k0_0
    have k0_1 : g 0 13 = g0 0 13 := k0_1
    have ih7 : ∀ v' : Int32 × (Nat → Nat → Int32) × (Nat → Nat → Int64), (((0 ≤ (Int32.toInt v1) ∧ (Int32.toInt v1) ≤ 0)) ∧ ((0 ≤ (Int32.toInt (v'.1)) ∧ (Int32.toInt (v'.1)) ≤ 700)) ∧ (zI XT (v'.2.1)) ∧ (pJ (v'.2.1)) ∧ ((v'.2.1) 2 2 = g0 2 2) ∧ ((v'.2.1) 0 13 = g0 0 13)) → 701 - (Int32.toInt (v'.1)) < 701 - (Int32.toInt v2) → 0 < 701 - (Int32.toInt v2) → Ex (k7 v') (fun (r : Unit) (g1 : Nat → Nat → Int32) (L1 : Nat → Nat → Int64) => zI XT g1 ∧ pJ g1 ∧ g1 2 2 = g0 2 2 ∧ g1 0 13 = g0 0 13) := ih7
    show Ex (fX6_readSum_5_s7 fu (fX6_readExpr_5 fu 6) v1 k7 v2 g L) (fun (r : Unit) (g1 : Nat → Nat → Int32) (L1 : Nat → Nat → Int64) => zI XT g1 ∧ pJ g1 ∧ g1 2 2 = g0 2 2 ∧ g1 0 13 = g0 0 13)
    unfold fX6_readSum_5_s7
    have J75 : ∀ (g : Nat → Nat → Int32) (L : Nat → Nat → Int64), zI XT g → pJ g → g 2 2 = g0 2 2 → g 0 13 = g0 0 13 → Ex (fX6_readSum_5_p75 fu (fX6_readExpr_5 fu 6) g L) (fun (r : Unit) (g1 : Nat → Nat → Int32) (L1 : Nat → Nat → Int64) => zI XT g1 ∧ pJ g1 ∧ g1 2 2 = g0 2 2 ∧ g1 0 13 = g0 0 13) := by
      intro g L hI hJ k0_0 k0_1
      unfold fX6_readSum_5_p75
      exact Ex.ret ⟨hI, hJ, k0_0, k0_1⟩
    refine Ex.ite (fun c6 => ?_) (fun c6 => ?_)
    ·
      have c6 := icc_le (m := 700) (n := (Int32.toInt v2)) (by decide) rfl c6
      exact J75 g L hI hJ k0_0 k0_1
    ·
      have c6 := icc_nle (m := 700) (n := (Int32.toInt v2)) (by decide) rfl c6
      refine Ex.cb (sX6_isSignNow_5 fu hfu 43 g L hI hJ) (fun x7 g8 L9 hq11 => ?_)
      obtain ⟨hI, hJ, kk0, kk1, rb_⟩ := hq11
      have b12 : 0 ≤ (Int32.toInt x7) ∧ (Int32.toInt x7) ≤ 1 := rb_
      have hI : zI XT g8 := hI
      have hJ : pJ g8 := hJ
      have k0_0 : g8 2 2 = g0 2 2 := kk0.trans k0_0
      have k0_1 : g8 0 13 = g0 0 13 := kk1.trans k0_1
      have J32 : ∀ (g : Nat → Nat → Int32) (L : Nat → Nat → Int64), (0 ≤ (Int32.toInt v1) ∧ (Int32.toInt v1) ≤ 0) → (0 ≤ (Int32.toInt v2) ∧ (Int32.toInt v2) ≤ 699) → zI XT g → pJ g → g 2 2 = g0 2 2 → g 0 13 = g0 0 13 → Ex (fX6_readSum_5_p32 fu (fX6_readExpr_5 fu 6) k7 v1 v2 g L) (fun (r : Unit) (g1 : Nat → Nat → Int32) (L1 : Nat → Nat → Int64) => zI XT g1 ∧ pJ g1 ∧ g1 2 2 = g0 2 2 ∧ g1 0 13 = g0 0 13) := by
        intro g L hb_v1 hb_v2 hI hJ k0_0 k0_1
        unfold fX6_readSum_5_p32
        refine Ex.cb (sX6_isSignNow_5 fu hfu 43 g L hI hJ) (fun x13 g14 L15 hq17 => ?_)
        obtain ⟨hI, hJ, kk0, kk1, rb_⟩ := hq17
        have b18 : 0 ≤ (Int32.toInt x13) ∧ (Int32.toInt x13) ≤ 1 := rb_
        have hI : zI XT g14 := hI
        have hJ : pJ g14 := hJ
        have k0_0 : g14 2 2 = g0 2 2 := kk0.trans k0_0
        have k0_1 : g14 0 13 = g0 0 13 := kk1.trans k0_1
        have J48 : ∀ (t0 : Int32) (g : Nat → Nat → Int32) (L : Nat → Nat → Int64), (0 ≤ (Int32.toInt v1) ∧ (Int32.toInt v1) ≤ 0) → (0 ≤ (Int32.toInt v2) ∧ (Int32.toInt v2) ≤ 699) → ((-8) ≤ (Int32.toInt t0) ∧ (Int32.toInt t0) ≤ (-7)) → zI XT g → pJ g → g 2 2 = g0 2 2 → g 0 13 = g0 0 13 → Ex (fX6_readSum_5_p48 fu (fX6_readExpr_5 fu 6) k7 v1 v2 t0 g L) (fun (r : Unit) (g1 : Nat → Nat → Int32) (L1 : Nat → Nat → Int64) => zI XT g1 ∧ pJ g1 ∧ g1 2 2 = g0 2 2 ∧ g1 0 13 = g0 0 13) := by
          intro t0 g L hb_v1 hb_v2 hb_t0 hI hJ k0_0 k0_1
          unfold fX6_readSum_5_p48
          refine Ex.cb (sX6_advance_5 fu hfu g L hI hJ) (fun x19 g20 L21 hq23 => ?_)
          obtain ⟨hI, hJ, kk0, kk1⟩ := hq23
          have hI : zI XT g20 := hI
          have hJ : pJ g20 := hJ
          have k0_0 : g20 2 2 = g0 2 2 := kk0.trans k0_0
          have k0_1 : g20 0 13 = g0 0 13 := kk1.trans k0_1
          refine Ex.cb (sX6_readProduct_5_L7 fu hfu v1 g20 L21 hI hJ (by omega)) (fun x24 g25 L26 hq28 => ?_)
          obtain ⟨hI, hJ, kk0, kk1⟩ := hq28
          have hI : zI XT g25 := hI
          have hJ : pJ g25 := hJ
          have k0_0 : g25 2 2 = g0 2 2 := kk0.trans k0_0
          have k0_1 : g25 0 13 = g0 0 13 := kk1.trans k0_1
          refine Ex.cb (sX8_add_4 fu hfu t0 g25 L26 hI hJ) (fun x29 g30 L31 hq33 => ?_)
          obtain ⟨hI, hJ, kk0, kk1⟩ := hq33
          have hI : zI XT g30 := hI
          have hJ : pJ g30 := hJ
          have k0_0 : g30 2 2 = g0 2 2 := kk0.trans k0_0
          have k0_1 : g30 0 13 = g0 0 13 := kk1.trans k0_1
          generalize z34q : (v2 + 1) = z34
          have e35 : (Int32.toInt z34) = (Int32.toInt v2) + 1 := by rw [← z34q]; exact ic_addc rfl (by decide) (by omega) (by omega)
          exact ih7 (z34, g30, L31) ⟨(show (0 ≤ (Int32.toInt v1) ∧ (Int32.toInt v1) ≤ 0) from by omega), (show (0 ≤ (Int32.toInt z34) ∧ (Int32.toInt z34) ≤ 700) from by omega), hI, hJ, k0_0, k0_1⟩ (by show 701 - (Int32.toInt z34) < _; omega) (by omega)
        refine Ex.ite (fun c36 => ?_) (fun c36 => ?_)
        ·
          have c36 := icc_eq (m := (Int32.toInt x13)) (n := 0) rfl (by decide) c36
          exact J48 (-8) g14 L15 (by omega) (by omega) (by decide) hI hJ k0_0 k0_1
        ·
          have c36 := icc_neq (m := (Int32.toInt x13)) (n := 0) rfl (by decide) c36
          exact J48 (-7) g14 L15 (by omega) (by omega) (by decide) hI hJ k0_0 k0_1
      refine Ex.ite (fun c37 => ?_) (fun c37 => ?_)
      ·
        have c37 := icc_eq (m := (Int32.toInt x7)) (n := 0) rfl (by decide) c37
        refine Ex.cb (sX6_isSignNow_5 fu hfu 45 g8 L9 hI hJ) (fun x38 g39 L40 hq42 => ?_)
        obtain ⟨hI, hJ, kk0, kk1, rb_⟩ := hq42
        have b43 : 0 ≤ (Int32.toInt x38) ∧ (Int32.toInt x38) ≤ 1 := rb_
        have hI : zI XT g39 := hI
        have hJ : pJ g39 := hJ
        have k0_0 : g39 2 2 = g0 2 2 := kk0.trans k0_0
        have k0_1 : g39 0 13 = g0 0 13 := kk1.trans k0_1
        refine Ex.ite (fun c44 => ?_) (fun c44 => ?_)
        ·
          have c44 := icc_eq (m := (Int32.toInt x38)) (n := 0) rfl (by decide) c44
          exact J75 g39 L40 hI hJ k0_0 k0_1
        ·
          have c44 := icc_neq (m := (Int32.toInt x38)) (n := 0) rfl (by decide) c44
          exact J32 g39 L40 (by omega) (by omega) hI hJ k0_0 k0_1
      ·
        have c37 := icc_neq (m := (Int32.toInt x7)) (n := 0) rfl (by decide) c37
        exact J32 g8 L9 (by omega) (by omega) hI hJ k0_0 k0_1
  exact lp7 p1 0 g2 L3 (by omega) (by decide) hI hJ k0_0 k0_1
set_option maxHeartbeats 4000000 in
set_option maxRecDepth 100000 in
theorem sX6_readTest_5_L7 (fu : Nat) (hfu : 1180591620717411303424 ≤ fu) (p1 : Int32) (g0 : Nat → Nat → Int32) (L0 : Nat → Nat → Int64) (hI : zI XT g0) (hJ : pJ g0) (hp1 : (0 ≤ (Int32.toInt p1) ∧ (Int32.toInt p1) ≤ 0)) : Ex (fX6_readTest_5 fu (fX6_readExpr_5 fu 6) p1 g0 L0) (fun (r : Unit) (g1 : Nat → Nat → Int32) (L1 : Nat → Nat → Int64) => zI XT g1 ∧ pJ g1 ∧ g1 2 2 = g0 2 2 ∧ g1 0 13 = g0 0 13) := by
  have k0_0 : g0 2 2 = g0 2 2 := rfl
  have k0_1 : g0 0 13 = g0 0 13 := rfl
  unfold fX6_readTest_5
  refine Ex.cb (sX6_readSum_5_L7 fu hfu p1 g0 L0 hI hJ (by omega)) (fun x1 g2 L3 hq5 => ?_)
  obtain ⟨hI, hJ, kk0, kk1⟩ := hq5
  have hI : zI XT g2 := hI
  have hJ : pJ g2 := hJ
  have k0_0 : g2 2 2 = g0 2 2 := kk0.trans k0_0
  have k0_1 : g2 0 13 = g0 0 13 := kk1.trans k0_1
  refine Ex.cb (sX6_isSignNow_5 fu hfu 60 g2 L3 hI hJ) (fun x6 g7 L8 hq10 => ?_)
  obtain ⟨hI, hJ, kk0, kk1, rb_⟩ := hq10
  have b11 : 0 ≤ (Int32.toInt x6) ∧ (Int32.toInt x6) ≤ 1 := rb_
  have hI : zI XT g7 := hI
  have hJ : pJ g7 := hJ
  have k0_0 : g7 2 2 = g0 2 2 := kk0.trans k0_0
  have k0_1 : g7 0 13 = g0 0 13 := kk1.trans k0_1
  have J68 : ∀ (g : Nat → Nat → Int32) (L : Nat → Nat → Int64), zI XT g → pJ g → g 2 2 = g0 2 2 → g 0 13 = g0 0 13 → Ex (fX6_readTest_5_p68 fu (fX6_readExpr_5 fu 6) g L) (fun (r : Unit) (g1 : Nat → Nat → Int32) (L1 : Nat → Nat → Int64) => zI XT g1 ∧ pJ g1 ∧ g1 2 2 = g0 2 2 ∧ g1 0 13 = g0 0 13) := by
    intro g L hI hJ k0_0 k0_1
    unfold fX6_readTest_5_p68
    exact Ex.ret ⟨hI, hJ, k0_0, k0_1⟩
  refine Ex.ite (fun c12 => ?_) (fun c12 => ?_)
  ·
    have c12 := icc_eq (m := (Int32.toInt x6)) (n := 0) rfl (by decide) c12
    refine Ex.cb (sX6_isSignNow_5 fu hfu 61 g7 L8 hI hJ) (fun x13 g14 L15 hq17 => ?_)
    obtain ⟨hI, hJ, kk0, kk1, rb_⟩ := hq17
    have b18 : 0 ≤ (Int32.toInt x13) ∧ (Int32.toInt x13) ≤ 1 := rb_
    have hI : zI XT g14 := hI
    have hJ : pJ g14 := hJ
    have k0_0 : g14 2 2 = g0 2 2 := kk0.trans k0_0
    have k0_1 : g14 0 13 = g0 0 13 := kk1.trans k0_1
    refine Ex.ite (fun c19 => ?_) (fun c19 => ?_)
    ·
      have c19 := icc_eq (m := (Int32.toInt x13)) (n := 0) rfl (by decide) c19
      exact J68 g14 L15 hI hJ k0_0 k0_1
    ·
      have c19 := icc_neq (m := (Int32.toInt x13)) (n := 0) rfl (by decide) c19
      refine Ex.cb (sX6_advance_5 fu hfu g14 L15 hI hJ) (fun x20 g21 L22 hq24 => ?_)
      obtain ⟨hI, hJ, kk0, kk1⟩ := hq24
      have hI : zI XT g21 := hI
      have hJ : pJ g21 := hJ
      have k0_0 : g21 2 2 = g0 2 2 := kk0.trans k0_0
      have k0_1 : g21 0 13 = g0 0 13 := kk1.trans k0_1
      refine Ex.cb (sX6_readSum_5_L7 fu hfu p1 g21 L22 hI hJ (by omega)) (fun x25 g26 L27 hq29 => ?_)
      obtain ⟨hI, hJ, kk0, kk1⟩ := hq29
      have hI : zI XT g26 := hI
      have hJ : pJ g26 := hJ
      have k0_0 : g26 2 2 = g0 2 2 := kk0.trans k0_0
      have k0_1 : g26 0 13 = g0 0 13 := kk1.trans k0_1
      refine Ex.cb (sX8_add_4 fu hfu (-12) g26 L27 hI hJ) (fun x30 g31 L32 hq34 => ?_)
      obtain ⟨hI, hJ, kk0, kk1⟩ := hq34
      have hI : zI XT g31 := hI
      have hJ : pJ g31 := hJ
      have k0_0 : g31 2 2 = g0 2 2 := kk0.trans k0_0
      have k0_1 : g31 0 13 = g0 0 13 := kk1.trans k0_1
      exact J68 g31 L32 hI hJ k0_0 k0_1
  ·
    have c12 := icc_neq (m := (Int32.toInt x6)) (n := 0) rfl (by decide) c12
    refine Ex.cb (sX6_advance_5 fu hfu g7 L8 hI hJ) (fun x35 g36 L37 hq39 => ?_)
    obtain ⟨hI, hJ, kk0, kk1⟩ := hq39
    have hI : zI XT g36 := hI
    have hJ : pJ g36 := hJ
    have k0_0 : g36 2 2 = g0 2 2 := kk0.trans k0_0
    have k0_1 : g36 0 13 = g0 0 13 := kk1.trans k0_1
    refine Ex.cb (sX6_readSum_5_L7 fu hfu p1 g36 L37 hI hJ (by omega)) (fun x40 g41 L42 hq44 => ?_)
    obtain ⟨hI, hJ, kk0, kk1⟩ := hq44
    have hI : zI XT g41 := hI
    have hJ : pJ g41 := hJ
    have k0_0 : g41 2 2 = g0 2 2 := kk0.trans k0_0
    have k0_1 : g41 0 13 = g0 0 13 := kk1.trans k0_1
    refine Ex.cb (sX8_add_4 fu hfu (-11) g41 L42 hI hJ) (fun x45 g46 L47 hq49 => ?_)
    obtain ⟨hI, hJ, kk0, kk1⟩ := hq49
    have hI : zI XT g46 := hI
    have hJ : pJ g46 := hJ
    have k0_0 : g46 2 2 = g0 2 2 := kk0.trans k0_0
    have k0_1 : g46 0 13 = g0 0 13 := kk1.trans k0_1
    exact J68 g46 L47 hI hJ k0_0 k0_1
set_option maxHeartbeats 4000000 in
set_option maxRecDepth 100000 in
theorem sX6_readNot_5_L7 (fu : Nat) (hfu : 1180591620717411303424 ≤ fu) (p1 : Int32) (g0 : Nat → Nat → Int32) (L0 : Nat → Nat → Int64) (hI : zI XT g0) (hJ : pJ g0) (hp1 : (0 ≤ (Int32.toInt p1) ∧ (Int32.toInt p1) ≤ 0)) : Ex (fX6_readNot_5 fu (fX6_readExpr_5 fu 6) p1 g0 L0) (fun (r : Unit) (g1 : Nat → Nat → Int32) (L1 : Nat → Nat → Int64) => zI XT g1 ∧ pJ g1 ∧ g1 2 2 = g0 2 2 ∧ g1 0 13 = g0 0 13) := by
  have k0_0 : g0 2 2 = g0 2 2 := rfl
  have k0_1 : g0 0 13 = g0 0 13 := rfl
  unfold fX6_readNot_5
  have lp2 : ∀ (v1 : Int32) (v2 : Int32) (g : Nat → Nat → Int32) (L : Nat → Nat → Int64), (0 ≤ (Int32.toInt v1) ∧ (Int32.toInt v1) ≤ 0) → (0 ≤ (Int32.toInt v2) ∧ (Int32.toInt v2) ≤ 6) → zI XT g → pJ g → g 2 2 = g0 2 2 → g 0 13 = g0 0 13 → Ex (fX6_readNot_5_l2 fu (fX6_readExpr_5 fu 6) v1 v2 g L) (fun (r : Unit) (g1 : Nat → Nat → Int32) (L1 : Nat → Nat → Int64) => zI XT g1 ∧ pJ g1 ∧ g1 2 2 = g0 2 2 ∧ g1 0 13 = g0 0 13) := by
    intro v1 v2 g L hb_v1 hb_v2 hI hJ k0_0 k0_1
    unfold fX6_readNot_5_l2
    refine Ex.loop (fun v => ((0 ≤ (Int32.toInt v1) ∧ (Int32.toInt v1) ≤ 0)) ∧ ((0 ≤ (Int32.toInt (v.1)) ∧ (Int32.toInt (v.1)) ≤ 6)) ∧ (zI XT (v.2.1)) ∧ (pJ (v.2.1)) ∧ ((v.2.1) 2 2 = g0 2 2) ∧ ((v.2.1) 0 13 = g0 0 13)) (fun v => 7 - (Int32.toInt (v.1))) (by omega) (by show 7 - (Int32.toInt v2) < (fu : Int); omega) ⟨hb_v1, hb_v2, hI, hJ, k0_0, k0_1⟩ (fun k2 v hv ih2 => ?_)
    obtain ⟨v2, g, L⟩ := v
    obtain ⟨hb_v1, hb_v2, hI, hJ, k0_0, k0_1⟩ := hv
    have hb_v1 : (0 ≤ (Int32.toInt v1) ∧ (Int32.toInt v1) ≤ 0) := hb_v1
    have hb_v2 : (0 ≤ (Int32.toInt v2) ∧ (Int32.toInt v2) ≤ 6) := hb_v2
    have hI : zI XT g := hI
    have hJ : pJ g := hJ
    have k0_0 : g 2 2 = g0 2 2 := k0_0
    have k0_1 : g 0 13 = g0 0 13 := k0_1
    have ih2 : ∀ v' : Int32 × (Nat → Nat → Int32) × (Nat → Nat → Int64), (((0 ≤ (Int32.toInt v1) ∧ (Int32.toInt v1) ≤ 0)) ∧ ((0 ≤ (Int32.toInt (v'.1)) ∧ (Int32.toInt (v'.1)) ≤ 6)) ∧ (zI XT (v'.2.1)) ∧ (pJ (v'.2.1)) ∧ ((v'.2.1) 2 2 = g0 2 2) ∧ ((v'.2.1) 0 13 = g0 0 13)) → 7 - (Int32.toInt (v'.1)) < 7 - (Int32.toInt v2) → 0 < 7 - (Int32.toInt v2) → Ex (k2 v') (fun (r : Unit) (g1 : Nat → Nat → Int32) (L1 : Nat → Nat → Int64) => zI XT g1 ∧ pJ g1 ∧ g1 2 2 = g0 2 2 ∧ g1 0 13 = g0 0 13) := ih2
    show Ex (fX6_readNot_5_s2 fu (fX6_readExpr_5 fu 6) v1 k2 v2 g L) (fun (r : Unit) (g1 : Nat → Nat → Int32) (L1 : Nat → Nat → Int64) => zI XT g1 ∧ pJ g1 ∧ g1 2 2 = g0 2 2 ∧ g1 0 13 = g0 0 13)
    unfold fX6_readNot_5_s2
    have J27 : ∀ (v1 : Int32) (v2 : Int32) (g : Nat → Nat → Int32) (L : Nat → Nat → Int64), (0 ≤ (Int32.toInt v1) ∧ (Int32.toInt v1) ≤ 0) → (0 ≤ (Int32.toInt v2) ∧ (Int32.toInt v2) ≤ 6) → zI XT g → pJ g → g 2 2 = g0 2 2 → g 0 13 = g0 0 13 → Ex (fX6_readNot_5_p27 fu (fX6_readExpr_5 fu 6) v1 v2 g L) (fun (r : Unit) (g1 : Nat → Nat → Int32) (L1 : Nat → Nat → Int64) => zI XT g1 ∧ pJ g1 ∧ g1 2 2 = g0 2 2 ∧ g1 0 13 = g0 0 13) := by
      intro v1 v2 g L hb_v1 hb_v2 hI hJ k0_0 k0_1
      unfold fX6_readNot_5_p27
      refine Ex.cb (sX6_isWord_5_not fu hfu g L hI hJ) (fun x1 g2 L3 hq5 => ?_)
      obtain ⟨hI, hJ, kk0, kk1, rb_⟩ := hq5
      have b6 : 0 ≤ (Int32.toInt x1) ∧ (Int32.toInt x1) ≤ 1 := rb_
      have hI : zI XT g2 := hI
      have hJ : pJ g2 := hJ
      have k0_0 : g2 2 2 = g0 2 2 := kk0.trans k0_0
      have k0_1 : g2 0 13 = g0 0 13 := kk1.trans k0_1
      have J47 : ∀ (v1 : Int32) (v2 : Int32) (g : Nat → Nat → Int32) (L : Nat → Nat → Int64), (0 ≤ (Int32.toInt v1) ∧ (Int32.toInt v1) ≤ 0) → (0 ≤ (Int32.toInt v2) ∧ (Int32.toInt v2) ≤ 6) → zI XT g → pJ g → g 2 2 = g0 2 2 → g 0 13 = g0 0 13 → Ex (fX6_readNot_5_p47 fu (fX6_readExpr_5 fu 6) v1 v2 g L) (fun (r : Unit) (g1 : Nat → Nat → Int32) (L1 : Nat → Nat → Int64) => zI XT g1 ∧ pJ g1 ∧ g1 2 2 = g0 2 2 ∧ g1 0 13 = g0 0 13) := by
        intro v1 v2 g L hb_v1 hb_v2 hI hJ k0_0 k0_1
        unfold fX6_readNot_5_p47
        refine Ex.cb (sX6_readTest_5_L7 fu hfu v1 g L hI hJ (by omega)) (fun x7 g8 L9 hq11 => ?_)
        obtain ⟨hI, hJ, kk0, kk1⟩ := hq11
        have hI : zI XT g8 := hI
        have hJ : pJ g8 := hJ
        have k0_0 : g8 2 2 = g0 2 2 := kk0.trans k0_0
        have k0_1 : g8 0 13 = g0 0 13 := kk1.trans k0_1
        have lp54 : ∀ (v2 : Int32) (v3 : Int32) (g : Nat → Nat → Int32) (L : Nat → Nat → Int64), (0 ≤ (Int32.toInt v2) ∧ (Int32.toInt v2) ≤ 6) → (0 ≤ (Int32.toInt v3) ∧ (Int32.toInt v3) ≤ 6) → zI XT g → pJ g → g 2 2 = g0 2 2 → g 0 13 = g0 0 13 → Ex (fX6_readNot_5_l54 fu (fX6_readExpr_5 fu 6) v2 v3 g L) (fun (r : Unit) (g1 : Nat → Nat → Int32) (L1 : Nat → Nat → Int64) => zI XT g1 ∧ pJ g1 ∧ g1 2 2 = g0 2 2 ∧ g1 0 13 = g0 0 13) := by
          intro v2 v3 g L hb_v2 hb_v3 hI hJ k0_0 k0_1
          unfold fX6_readNot_5_l54
          refine Ex.loop (fun v => ((0 ≤ (Int32.toInt v2) ∧ (Int32.toInt v2) ≤ 6)) ∧ ((0 ≤ (Int32.toInt (v.1)) ∧ (Int32.toInt (v.1)) ≤ 6)) ∧ (zI XT (v.2.1)) ∧ (pJ (v.2.1)) ∧ ((v.2.1) 2 2 = g0 2 2) ∧ ((v.2.1) 0 13 = g0 0 13)) (fun v => 7 - (Int32.toInt (v.1))) (by omega) (by show 7 - (Int32.toInt v3) < (fu : Int); omega) ⟨hb_v2, hb_v3, hI, hJ, k0_0, k0_1⟩ (fun k54 v hv ih54 => ?_)
          obtain ⟨v3, g, L⟩ := v
          obtain ⟨hb_v2, hb_v3, hI, hJ, k0_0, k0_1⟩ := hv
          have hb_v2 : (0 ≤ (Int32.toInt v2) ∧ (Int32.toInt v2) ≤ 6) := hb_v2
          have hb_v3 : (0 ≤ (Int32.toInt v3) ∧ (Int32.toInt v3) ≤ 6) := hb_v3
          have hI : zI XT g := hI
          have hJ : pJ g := hJ
          have k0_0 : g 2 2 = g0 2 2 := k0_0
          have k0_1 : g 0 13 = g0 0 13 := k0_1
          have ih54 : ∀ v' : Int32 × (Nat → Nat → Int32) × (Nat → Nat → Int64), (((0 ≤ (Int32.toInt v2) ∧ (Int32.toInt v2) ≤ 6)) ∧ ((0 ≤ (Int32.toInt (v'.1)) ∧ (Int32.toInt (v'.1)) ≤ 6)) ∧ (zI XT (v'.2.1)) ∧ (pJ (v'.2.1)) ∧ ((v'.2.1) 2 2 = g0 2 2) ∧ ((v'.2.1) 0 13 = g0 0 13)) → 7 - (Int32.toInt (v'.1)) < 7 - (Int32.toInt v3) → 0 < 7 - (Int32.toInt v3) → Ex (k54 v') (fun (r : Unit) (g1 : Nat → Nat → Int32) (L1 : Nat → Nat → Int64) => zI XT g1 ∧ pJ g1 ∧ g1 2 2 = g0 2 2 ∧ g1 0 13 = g0 0 13) := ih54
          show Ex (fX6_readNot_5_s54 fu (fX6_readExpr_5 fu 6) v2 k54 v3 g L) (fun (r : Unit) (g1 : Nat → Nat → Int32) (L1 : Nat → Nat → Int64) => zI XT g1 ∧ pJ g1 ∧ g1 2 2 = g0 2 2 ∧ g1 0 13 = g0 0 13)
          unfold fX6_readNot_5_s54
          refine Ex.ite (fun c12 => ?_) (fun c12 => ?_)
          ·
            have c12 := icc_le (m := (Int32.toInt v2)) (n := (Int32.toInt v3)) rfl rfl c12
            exact Ex.ret ⟨hI, hJ, k0_0, k0_1⟩
          ·
            have c12 := icc_nle (m := (Int32.toInt v2)) (n := (Int32.toInt v3)) rfl rfl c12
            refine Ex.cb (sX8_add_4 fu hfu (-15) g L hI hJ) (fun x13 g14 L15 hq17 => ?_)
            obtain ⟨hI, hJ, kk0, kk1⟩ := hq17
            have hI : zI XT g14 := hI
            have hJ : pJ g14 := hJ
            have k0_0 : g14 2 2 = g0 2 2 := kk0.trans k0_0
            have k0_1 : g14 0 13 = g0 0 13 := kk1.trans k0_1
            generalize z18q : (v3 + 1) = z18
            have e19 : (Int32.toInt z18) = (Int32.toInt v3) + 1 := by rw [← z18q]; exact ic_addc rfl (by decide) (by omega) (by omega)
            exact ih54 (z18, g14, L15) ⟨(show (0 ≤ (Int32.toInt v2) ∧ (Int32.toInt v2) ≤ 6) from by omega), (show (0 ≤ (Int32.toInt z18) ∧ (Int32.toInt z18) ≤ 6) from by omega), hI, hJ, k0_0, k0_1⟩ (by show 7 - (Int32.toInt z18) < _; omega) (by omega)
        exact lp54 v2 0 g8 L9 (by omega) (by decide) hI hJ k0_0 k0_1
      refine Ex.ite (fun c20 => ?_) (fun c20 => ?_)
      ·
        have c20 := icc_eq (m := (Int32.toInt x1)) (n := 0) rfl (by decide) c20
        exact J47 v1 v2 g2 L3 (by omega) (by omega) hI hJ k0_0 k0_1
      ·
        have c20 := icc_neq (m := (Int32.toInt x1)) (n := 0) rfl (by decide) c20
        refine Ex.ite (fun c21 => ?_) (fun c21 => ?_)
        ·
          have c21 := icc_lt (m := (Int32.toInt v2)) (n := 6) rfl (by decide) c21
          exact J47 v1 v2 g2 L3 (by omega) (by omega) hI hJ k0_0 k0_1
        ·
          have c21 := icc_nlt (m := (Int32.toInt v2)) (n := 6) rfl (by decide) c21
          refine Ex.cb (sX6_refuse_5 fu hfu 2 g2 L3 hI hJ) (fun x22 g23 L24 hq26 => ?_)
          obtain ⟨hI, hJ, kk0, kk1⟩ := hq26
          have hI : zI XT g23 := hI
          have hJ : pJ g23 := hJ
          have k0_0 : g23 2 2 = g0 2 2 := kk0.trans k0_0
          have k0_1 : g23 0 13 = g0 0 13 := kk1.trans k0_1
          exact J47 v1 v2 g23 L24 (by omega) (by omega) hI hJ k0_0 k0_1
    refine Ex.ite (fun c27 => ?_) (fun c27 => ?_)
    ·
      have c27 := icc_le (m := 6) (n := (Int32.toInt v2)) (by decide) rfl c27
      exact J27 v1 v2 g L (by omega) (by omega) hI hJ k0_0 k0_1
    ·
      have c27 := icc_nle (m := 6) (n := (Int32.toInt v2)) (by decide) rfl c27
      refine Ex.cb (sX6_isWord_5_not fu hfu g L hI hJ) (fun x28 g29 L30 hq32 => ?_)
      obtain ⟨hI, hJ, kk0, kk1, rb_⟩ := hq32
      have b33 : 0 ≤ (Int32.toInt x28) ∧ (Int32.toInt x28) ≤ 1 := rb_
      have hI : zI XT g29 := hI
      have hJ : pJ g29 := hJ
      have k0_0 : g29 2 2 = g0 2 2 := kk0.trans k0_0
      have k0_1 : g29 0 13 = g0 0 13 := kk1.trans k0_1
      refine Ex.ite (fun c34 => ?_) (fun c34 => ?_)
      ·
        have c34 := icc_eq (m := (Int32.toInt x28)) (n := 0) rfl (by decide) c34
        exact J27 v1 v2 g29 L30 (by omega) (by omega) hI hJ k0_0 k0_1
      ·
        have c34 := icc_neq (m := (Int32.toInt x28)) (n := 0) rfl (by decide) c34
        generalize z35q : (v2 + 1) = z35
        have e36 : (Int32.toInt z35) = (Int32.toInt v2) + 1 := by rw [← z35q]; exact ic_addc rfl (by decide) (by omega) (by omega)
        refine Ex.cb (sX6_advance_5 fu hfu g29 L30 hI hJ) (fun x37 g38 L39 hq41 => ?_)
        obtain ⟨hI, hJ, kk0, kk1⟩ := hq41
        have hI : zI XT g38 := hI
        have hJ : pJ g38 := hJ
        have k0_0 : g38 2 2 = g0 2 2 := kk0.trans k0_0
        have k0_1 : g38 0 13 = g0 0 13 := kk1.trans k0_1
        exact ih2 (z35, g38, L39) ⟨(show (0 ≤ (Int32.toInt v1) ∧ (Int32.toInt v1) ≤ 0) from by omega), (show (0 ≤ (Int32.toInt z35) ∧ (Int32.toInt z35) ≤ 6) from by omega), hI, hJ, k0_0, k0_1⟩ (by show 7 - (Int32.toInt z35) < _; omega) (by omega)
  exact lp2 p1 0 g0 L0 (by omega) (by decide) hI hJ k0_0 k0_1
set_option maxHeartbeats 4000000 in
set_option maxRecDepth 100000 in
theorem sX6_readAnd_5_L7 (fu : Nat) (hfu : 1180591620717411303424 ≤ fu) (p1 : Int32) (g0 : Nat → Nat → Int32) (L0 : Nat → Nat → Int64) (hI : zI XT g0) (hJ : pJ g0) (hp1 : (0 ≤ (Int32.toInt p1) ∧ (Int32.toInt p1) ≤ 0)) : Ex (fX6_readAnd_5 fu (fX6_readExpr_5 fu 6) p1 g0 L0) (fun (r : Unit) (g1 : Nat → Nat → Int32) (L1 : Nat → Nat → Int64) => zI XT g1 ∧ pJ g1 ∧ g1 2 2 = g0 2 2 ∧ g1 0 13 = g0 0 13) := by
  have k0_0 : g0 2 2 = g0 2 2 := rfl
  have k0_1 : g0 0 13 = g0 0 13 := rfl
  unfold fX6_readAnd_5
  refine Ex.cb (sX6_readNot_5_L7 fu hfu p1 g0 L0 hI hJ (by omega)) (fun x1 g2 L3 hq5 => ?_)
  obtain ⟨hI, hJ, kk0, kk1⟩ := hq5
  have hI : zI XT g2 := hI
  have hJ : pJ g2 := hJ
  have k0_0 : g2 2 2 = g0 2 2 := kk0.trans k0_0
  have k0_1 : g2 0 13 = g0 0 13 := kk1.trans k0_1
  have lp7 : ∀ (v1 : Int32) (v2 : Int32) (g : Nat → Nat → Int32) (L : Nat → Nat → Int64), (0 ≤ (Int32.toInt v1) ∧ (Int32.toInt v1) ≤ 0) → (0 ≤ (Int32.toInt v2) ∧ (Int32.toInt v2) ≤ 700) → zI XT g → pJ g → g 2 2 = g0 2 2 → g 0 13 = g0 0 13 → Ex (fX6_readAnd_5_l7 fu (fX6_readExpr_5 fu 6) v1 v2 g L) (fun (r : Unit) (g1 : Nat → Nat → Int32) (L1 : Nat → Nat → Int64) => zI XT g1 ∧ pJ g1 ∧ g1 2 2 = g0 2 2 ∧ g1 0 13 = g0 0 13) := by
    intro v1 v2 g L hb_v1 hb_v2 hI hJ k0_0 k0_1
    unfold fX6_readAnd_5_l7
    refine Ex.loop (fun v => ((0 ≤ (Int32.toInt v1) ∧ (Int32.toInt v1) ≤ 0)) ∧ ((0 ≤ (Int32.toInt (v.1)) ∧ (Int32.toInt (v.1)) ≤ 700)) ∧ (zI XT (v.2.1)) ∧ (pJ (v.2.1)) ∧ ((v.2.1) 2 2 = g0 2 2) ∧ ((v.2.1) 0 13 = g0 0 13)) (fun v => 701 - (Int32.toInt (v.1))) (by omega) (by show 701 - (Int32.toInt v2) < (fu : Int); omega) ⟨hb_v1, hb_v2, hI, hJ, k0_0, k0_1⟩ (fun k7 v hv ih7 => ?_)
    obtain ⟨v2, g, L⟩ := v
    obtain ⟨hb_v1, hb_v2, hI, hJ, k0_0, k0_1⟩ := hv
    have hb_v1 : (0 ≤ (Int32.toInt v1) ∧ (Int32.toInt v1) ≤ 0) := hb_v1
    have hb_v2 : (0 ≤ (Int32.toInt v2) ∧ (Int32.toInt v2) ≤ 700) := hb_v2
    have hI : zI XT g := hI
    have hJ : pJ g := hJ
    have k0_0 : g 2 2 = g0 2 2 := k0_0
    have k0_1 : g 0 13 = g0 0 13 := k0_1
    have ih7 : ∀ v' : Int32 × (Nat → Nat → Int32) × (Nat → Nat → Int64), (((0 ≤ (Int32.toInt v1) ∧ (Int32.toInt v1) ≤ 0)) ∧ ((0 ≤ (Int32.toInt (v'.1)) ∧ (Int32.toInt (v'.1)) ≤ 700)) ∧ (zI XT (v'.2.1)) ∧ (pJ (v'.2.1)) ∧ ((v'.2.1) 2 2 = g0 2 2) ∧ ((v'.2.1) 0 13 = g0 0 13)) → 701 - (Int32.toInt (v'.1)) < 701 - (Int32.toInt v2) → 0 < 701 - (Int32.toInt v2) → Ex (k7 v') (fun (r : Unit) (g1 : Nat → Nat → Int32) (L1 : Nat → Nat → Int64) => zI XT g1 ∧ pJ g1 ∧ g1 2 2 = g0 2 2 ∧ g1 0 13 = g0 0 13) := ih7
    show Ex (fX6_readAnd_5_s7 fu (fX6_readExpr_5 fu 6) v1 k7 v2 g L) (fun (r : Unit) (g1 : Nat → Nat → Int32) (L1 : Nat → Nat → Int64) => zI XT g1 ∧ pJ g1 ∧ g1 2 2 = g0 2 2 ∧ g1 0 13 = g0 0 13)
    unfold fX6_readAnd_5_s7
    have J50 : ∀ (g : Nat → Nat → Int32) (L : Nat → Nat → Int64), zI XT g → pJ g → g 2 2 = g0 2 2 → g 0 13 = g0 0 13 → Ex (fX6_readAnd_5_p50 fu (fX6_readExpr_5 fu 6) g L) (fun (r : Unit) (g1 : Nat → Nat → Int32) (L1 : Nat → Nat → Int64) => zI XT g1 ∧ pJ g1 ∧ g1 2 2 = g0 2 2 ∧ g1 0 13 = g0 0 13) := by
      intro g L hI hJ k0_0 k0_1
      unfold fX6_readAnd_5_p50
      exact Ex.ret ⟨hI, hJ, k0_0, k0_1⟩
    refine Ex.ite (fun c6 => ?_) (fun c6 => ?_)
    ·
      have c6 := icc_le (m := 700) (n := (Int32.toInt v2)) (by decide) rfl c6
      exact J50 g L hI hJ k0_0 k0_1
    ·
      have c6 := icc_nle (m := 700) (n := (Int32.toInt v2)) (by decide) rfl c6
      refine Ex.cb (sX6_isWord_5_and fu hfu g L hI hJ) (fun x7 g8 L9 hq11 => ?_)
      obtain ⟨hI, hJ, kk0, kk1, rb_⟩ := hq11
      have b12 : 0 ≤ (Int32.toInt x7) ∧ (Int32.toInt x7) ≤ 1 := rb_
      have hI : zI XT g8 := hI
      have hJ : pJ g8 := hJ
      have k0_0 : g8 2 2 = g0 2 2 := kk0.trans k0_0
      have k0_1 : g8 0 13 = g0 0 13 := kk1.trans k0_1
      refine Ex.ite (fun c13 => ?_) (fun c13 => ?_)
      ·
        have c13 := icc_eq (m := (Int32.toInt x7)) (n := 0) rfl (by decide) c13
        exact J50 g8 L9 hI hJ k0_0 k0_1
      ·
        have c13 := icc_neq (m := (Int32.toInt x7)) (n := 0) rfl (by decide) c13
        refine Ex.cb (sX6_advance_5 fu hfu g8 L9 hI hJ) (fun x14 g15 L16 hq18 => ?_)
        obtain ⟨hI, hJ, kk0, kk1⟩ := hq18
        have hI : zI XT g15 := hI
        have hJ : pJ g15 := hJ
        have k0_0 : g15 2 2 = g0 2 2 := kk0.trans k0_0
        have k0_1 : g15 0 13 = g0 0 13 := kk1.trans k0_1
        refine Ex.cb (sX6_readNot_5_L7 fu hfu v1 g15 L16 hI hJ (by omega)) (fun x19 g20 L21 hq23 => ?_)
        obtain ⟨hI, hJ, kk0, kk1⟩ := hq23
        have hI : zI XT g20 := hI
        have hJ : pJ g20 := hJ
        have k0_0 : g20 2 2 = g0 2 2 := kk0.trans k0_0
        have k0_1 : g20 0 13 = g0 0 13 := kk1.trans k0_1
        refine Ex.cb (sX8_add_4 fu hfu (-13) g20 L21 hI hJ) (fun x24 g25 L26 hq28 => ?_)
        obtain ⟨hI, hJ, kk0, kk1⟩ := hq28
        have hI : zI XT g25 := hI
        have hJ : pJ g25 := hJ
        have k0_0 : g25 2 2 = g0 2 2 := kk0.trans k0_0
        have k0_1 : g25 0 13 = g0 0 13 := kk1.trans k0_1
        generalize z29q : (v2 + 1) = z29
        have e30 : (Int32.toInt z29) = (Int32.toInt v2) + 1 := by rw [← z29q]; exact ic_addc rfl (by decide) (by omega) (by omega)
        exact ih7 (z29, g25, L26) ⟨(show (0 ≤ (Int32.toInt v1) ∧ (Int32.toInt v1) ≤ 0) from by omega), (show (0 ≤ (Int32.toInt z29) ∧ (Int32.toInt z29) ≤ 700) from by omega), hI, hJ, k0_0, k0_1⟩ (by show 701 - (Int32.toInt z29) < _; omega) (by omega)
  exact lp7 p1 0 g2 L3 (by omega) (by decide) hI hJ k0_0 k0_1
set_option maxHeartbeats 4000000 in
set_option maxRecDepth 100000 in
theorem sX6_readExpr_5_L7 (fu : Nat) (hfu : 1180591620717411303424 ≤ fu) (p1 : Int32) (g0 : Nat → Nat → Int32) (L0 : Nat → Nat → Int64) (hI : zI XT g0) (hJ : pJ g0) (hp1 : (0 ≤ (Int32.toInt p1) ∧ (Int32.toInt p1) ≤ 0)) : Ex (fX6_readExpr_5 fu 7 p1 g0 L0) (fun (r : Unit) (g1 : Nat → Nat → Int32) (L1 : Nat → Nat → Int64) => zI XT g1 ∧ pJ g1 ∧ g1 2 2 = g0 2 2 ∧ g1 0 13 = g0 0 13) := by
  have k0_0 : g0 2 2 = g0 2 2 := rfl
  have k0_1 : g0 0 13 = g0 0 13 := rfl
  rw [fX6_readExpr_5_succ]
  unfold fX6_readExpr_5B
  have J35 : ∀ (v1 : Int32) (g : Nat → Nat → Int32) (L : Nat → Nat → Int64), (0 ≤ (Int32.toInt v1) ∧ (Int32.toInt v1) ≤ 0) → zI XT g → pJ g → g 2 2 = g0 2 2 → g 0 13 = g0 0 13 → Ex (fX6_readExpr_5_p35 fu (fX6_readExpr_5 fu 6) v1 g L) (fun (r : Unit) (g1 : Nat → Nat → Int32) (L1 : Nat → Nat → Int64) => zI XT g1 ∧ pJ g1 ∧ g1 2 2 = g0 2 2 ∧ g1 0 13 = g0 0 13) := by
    intro v1 g L hb_v1 hI hJ k0_0 k0_1
    unfold fX6_readExpr_5_p35
    refine Ex.cb (sX6_readAnd_5_L7 fu hfu v1 g L hI hJ (by omega)) (fun x1 g2 L3 hq5 => ?_)
    obtain ⟨hI, hJ, kk0, kk1⟩ := hq5
    have hI : zI XT g2 := hI
    have hJ : pJ g2 := hJ
    have k0_0 : g2 2 2 = g0 2 2 := kk0.trans k0_0
    have k0_1 : g2 0 13 = g0 0 13 := kk1.trans k0_1
    have lp42 : ∀ (v1 : Int32) (v2 : Int32) (g : Nat → Nat → Int32) (L : Nat → Nat → Int64), (0 ≤ (Int32.toInt v1) ∧ (Int32.toInt v1) ≤ 0) → (0 ≤ (Int32.toInt v2) ∧ (Int32.toInt v2) ≤ 700) → zI XT g → pJ g → g 2 2 = g0 2 2 → g 0 13 = g0 0 13 → Ex (fX6_readExpr_5_l42 fu (fX6_readExpr_5 fu 6) v1 v2 g L) (fun (r : Unit) (g1 : Nat → Nat → Int32) (L1 : Nat → Nat → Int64) => zI XT g1 ∧ pJ g1 ∧ g1 2 2 = g0 2 2 ∧ g1 0 13 = g0 0 13) := by
      intro v1 v2 g L hb_v1 hb_v2 hI hJ k0_0 k0_1
      unfold fX6_readExpr_5_l42
      refine Ex.loop (fun v => ((0 ≤ (Int32.toInt v1) ∧ (Int32.toInt v1) ≤ 0)) ∧ ((0 ≤ (Int32.toInt (v.1)) ∧ (Int32.toInt (v.1)) ≤ 700)) ∧ (zI XT (v.2.1)) ∧ (pJ (v.2.1)) ∧ ((v.2.1) 2 2 = g0 2 2) ∧ ((v.2.1) 0 13 = g0 0 13)) (fun v => 701 - (Int32.toInt (v.1))) (by omega) (by show 701 - (Int32.toInt v2) < (fu : Int); omega) ⟨hb_v1, hb_v2, hI, hJ, k0_0, k0_1⟩ (fun k42 v hv ih42 => ?_)
      obtain ⟨v2, g, L⟩ := v
      obtain ⟨hb_v1, hb_v2, hI, hJ, k0_0, k0_1⟩ := hv
      have hb_v1 : (0 ≤ (Int32.toInt v1) ∧ (Int32.toInt v1) ≤ 0) := hb_v1
      have hb_v2 : (0 ≤ (Int32.toInt v2) ∧ (Int32.toInt v2) ≤ 700) := hb_v2
      have hI : zI XT g := hI
      have hJ : pJ g := hJ
      have k0_0 : g 2 2 = g0 2 2 := k0_0
      have k0_1 : g 0 13 = g0 0 13 := k0_1
      have ih42 : ∀ v' : Int32 × (Nat → Nat → Int32) × (Nat → Nat → Int64), (((0 ≤ (Int32.toInt v1) ∧ (Int32.toInt v1) ≤ 0)) ∧ ((0 ≤ (Int32.toInt (v'.1)) ∧ (Int32.toInt (v'.1)) ≤ 700)) ∧ (zI XT (v'.2.1)) ∧ (pJ (v'.2.1)) ∧ ((v'.2.1) 2 2 = g0 2 2) ∧ ((v'.2.1) 0 13 = g0 0 13)) → 701 - (Int32.toInt (v'.1)) < 701 - (Int32.toInt v2) → 0 < 701 - (Int32.toInt v2) → Ex (k42 v') (fun (r : Unit) (g1 : Nat → Nat → Int32) (L1 : Nat → Nat → Int64) => zI XT g1 ∧ pJ g1 ∧ g1 2 2 = g0 2 2 ∧ g1 0 13 = g0 0 13) := ih42
      show Ex (fX6_readExpr_5_s42 fu (fX6_readExpr_5 fu 6) v1 k42 v2 g L) (fun (r : Unit) (g1 : Nat → Nat → Int32) (L1 : Nat → Nat → Int64) => zI XT g1 ∧ pJ g1 ∧ g1 2 2 = g0 2 2 ∧ g1 0 13 = g0 0 13)
      unfold fX6_readExpr_5_s42
      have J85 : ∀ (g : Nat → Nat → Int32) (L : Nat → Nat → Int64), zI XT g → pJ g → g 2 2 = g0 2 2 → g 0 13 = g0 0 13 → Ex (fX6_readExpr_5_p85 fu (fX6_readExpr_5 fu 6) g L) (fun (r : Unit) (g1 : Nat → Nat → Int32) (L1 : Nat → Nat → Int64) => zI XT g1 ∧ pJ g1 ∧ g1 2 2 = g0 2 2 ∧ g1 0 13 = g0 0 13) := by
        intro g L hI hJ k0_0 k0_1
        unfold fX6_readExpr_5_p85
        exact Ex.ret ⟨hI, hJ, k0_0, k0_1⟩
      refine Ex.ite (fun c6 => ?_) (fun c6 => ?_)
      ·
        have c6 := icc_le (m := 700) (n := (Int32.toInt v2)) (by decide) rfl c6
        exact J85 g L hI hJ k0_0 k0_1
      ·
        have c6 := icc_nle (m := 700) (n := (Int32.toInt v2)) (by decide) rfl c6
        refine Ex.cb (sX6_isWord_5_or fu hfu g L hI hJ) (fun x7 g8 L9 hq11 => ?_)
        obtain ⟨hI, hJ, kk0, kk1, rb_⟩ := hq11
        have b12 : 0 ≤ (Int32.toInt x7) ∧ (Int32.toInt x7) ≤ 1 := rb_
        have hI : zI XT g8 := hI
        have hJ : pJ g8 := hJ
        have k0_0 : g8 2 2 = g0 2 2 := kk0.trans k0_0
        have k0_1 : g8 0 13 = g0 0 13 := kk1.trans k0_1
        refine Ex.ite (fun c13 => ?_) (fun c13 => ?_)
        ·
          have c13 := icc_eq (m := (Int32.toInt x7)) (n := 0) rfl (by decide) c13
          exact J85 g8 L9 hI hJ k0_0 k0_1
        ·
          have c13 := icc_neq (m := (Int32.toInt x7)) (n := 0) rfl (by decide) c13
          refine Ex.cb (sX6_advance_5 fu hfu g8 L9 hI hJ) (fun x14 g15 L16 hq18 => ?_)
          obtain ⟨hI, hJ, kk0, kk1⟩ := hq18
          have hI : zI XT g15 := hI
          have hJ : pJ g15 := hJ
          have k0_0 : g15 2 2 = g0 2 2 := kk0.trans k0_0
          have k0_1 : g15 0 13 = g0 0 13 := kk1.trans k0_1
          refine Ex.cb (sX6_readAnd_5_L7 fu hfu v1 g15 L16 hI hJ (by omega)) (fun x19 g20 L21 hq23 => ?_)
          obtain ⟨hI, hJ, kk0, kk1⟩ := hq23
          have hI : zI XT g20 := hI
          have hJ : pJ g20 := hJ
          have k0_0 : g20 2 2 = g0 2 2 := kk0.trans k0_0
          have k0_1 : g20 0 13 = g0 0 13 := kk1.trans k0_1
          refine Ex.cb (sX8_add_4 fu hfu (-14) g20 L21 hI hJ) (fun x24 g25 L26 hq28 => ?_)
          obtain ⟨hI, hJ, kk0, kk1⟩ := hq28
          have hI : zI XT g25 := hI
          have hJ : pJ g25 := hJ
          have k0_0 : g25 2 2 = g0 2 2 := kk0.trans k0_0
          have k0_1 : g25 0 13 = g0 0 13 := kk1.trans k0_1
          generalize z29q : (v2 + 1) = z29
          have e30 : (Int32.toInt z29) = (Int32.toInt v2) + 1 := by rw [← z29q]; exact ic_addc rfl (by decide) (by omega) (by omega)
          exact ih42 (z29, g25, L26) ⟨(show (0 ≤ (Int32.toInt v1) ∧ (Int32.toInt v1) ≤ 0) from by omega), (show (0 ≤ (Int32.toInt z29) ∧ (Int32.toInt z29) ≤ 700) from by omega), hI, hJ, k0_0, k0_1⟩ (by show 701 - (Int32.toInt z29) < _; omega) (by omega)
    exact lp42 v1 0 g2 L3 (by omega) (by decide) hI hJ k0_0 k0_1
  refine Ex.ite (fun c31 => ?_) (fun c31 => ?_)
  ·
    have c31 := icc_le (m := (Int32.toInt p1)) (n := 5) rfl (by decide) c31
    exact J35 p1 g0 L0 (by omega) hI hJ k0_0 k0_1
  ·
    have c31 := icc_nle (m := (Int32.toInt p1)) (n := 5) rfl (by decide) c31
    omega
set_option maxHeartbeats 4000000 in
set_option maxRecDepth 100000 in
theorem sX6_readRule_5 (fu : Nat) (hfu : 1180591620717411303424 ≤ fu) (g0 : Nat → Nat → Int32) (L0 : Nat → Nat → Int64) (hI : zI XT g0) (hJ : pJ g0) : Ex (fX6_readRule_5 fu g0 L0) (fun (r : Unit) (g1 : Nat → Nat → Int32) (L1 : Nat → Nat → Int64) => zI XT g1 ∧ pJ g1 ∧ g1 2 2 = g0 2 2 ∧ g1 0 13 = g0 0 13) := by
  have k0_0 : g0 2 2 = g0 2 2 := rfl
  have k0_1 : g0 0 13 = g0 0 13 := rfl
  unfold fX6_readRule_5
  have b1 : 0 ≤ (Int32.toInt (g0 4 3)) ∧ (Int32.toInt (g0 4 3)) ≤ 4 := hI 4 3 0 4 rfl
  have J19 : ∀ (g : Nat → Nat → Int32) (L : Nat → Nat → Int64), zI XT g → pJ g → g 2 2 = g0 2 2 → g 0 13 = g0 0 13 → Ex (fX6_readRule_5_p19 fu g L) (fun (r : Unit) (g1 : Nat → Nat → Int32) (L1 : Nat → Nat → Int64) => zI XT g1 ∧ pJ g1 ∧ g1 2 2 = g0 2 2 ∧ g1 0 13 = g0 0 13) := by
    intro g L hI hJ k0_0 k0_1
    unfold fX6_readRule_5_p19
    refine Ex.cb (sX6_advance_5 fu hfu g L hI hJ) (fun x2 g3 L4 hq6 => ?_)
    obtain ⟨hI, hJ, kk0, kk1⟩ := hq6
    have hI : zI XT g3 := hI
    have hJ : pJ g3 := hJ
    have k0_0 : g3 2 2 = g0 2 2 := kk0.trans k0_0
    have k0_1 : g3 0 13 = g0 0 13 := kk1.trans k0_1
    refine Ex.cb (sX6_readExpr_5_L7 fu hfu 0 g3 L4 hI hJ (by decide)) (fun x7 g8 L9 hq11 => ?_)
    obtain ⟨hI, hJ, kk0, kk1⟩ := hq11
    have hI : zI XT g8 := hI
    have hJ : pJ g8 := hJ
    have k0_0 : g8 2 2 = g0 2 2 := kk0.trans k0_0
    have k0_1 : g8 0 13 = g0 0 13 := kk1.trans k0_1
    refine Ex.cb (sX8_close_4 fu hfu g8 L9 hI hJ) (fun x12 g13 L14 hq16 => ?_)
    obtain ⟨hI, hJ, kk0, kk1⟩ := hq16
    have hI : zI XT g13 := hI
    have hJ : pJ g13 := hJ
    have k0_0 : g13 2 2 = g0 2 2 := kk0.trans k0_0
    have k0_1 : g13 0 13 = g0 0 13 := kk1.trans k0_1
    exact Ex.ret ⟨hI, hJ, k0_0, k0_1⟩
  refine Ex.ite (fun c17 => ?_) (fun c17 => ?_)
  ·
    have c17 := icc_lt (m := (Int32.toInt (g0 4 3))) (n := 4) rfl (by decide) c17
    exact J19 g0 L0 hI hJ k0_0 k0_1
  ·
    have c17 := icc_nlt (m := (Int32.toInt (g0 4 3))) (n := 4) rfl (by decide) c17
    refine Ex.cb (sX6_refuse_5 fu hfu 2 g0 L0 hI hJ) (fun x18 g19 L20 hq22 => ?_)
    obtain ⟨hI, hJ, kk0, kk1⟩ := hq22
    have hI : zI XT g19 := hI
    have hJ : pJ g19 := hJ
    have k0_0 : g19 2 2 = g0 2 2 := kk0.trans k0_0
    have k0_1 : g19 0 13 = g0 0 13 := kk1.trans k0_1
    exact J19 g19 L20 hI hJ k0_0 k0_1
set_option maxHeartbeats 4000000 in
set_option maxRecDepth 100000 in
theorem sX6_readWalk_5 (fu : Nat) (hfu : 1180591620717411303424 ≤ fu) (g0 : Nat → Nat → Int32) (L0 : Nat → Nat → Int64) (hI : zI XT g0) (hJ : pJ g0) : Ex (fX6_readWalk_5 fu g0 L0) (fun (r : Unit) (g1 : Nat → Nat → Int32) (L1 : Nat → Nat → Int64) => zI XT g1 ∧ pJ g1 ∧ g1 2 2 = g0 2 2 ∧ g1 0 13 = g0 0 13) := by
  have k0_0 : g0 2 2 = g0 2 2 := rfl
  have k0_1 : g0 0 13 = g0 0 13 := rfl
  unfold fX6_readWalk_5
  have b1 : 0 ≤ (Int32.toInt (g0 5 9)) ∧ (Int32.toInt (g0 5 9)) ≤ 1 := hI 5 9 0 1 rfl
  have J12 : ∀ (g : Nat → Nat → Int32) (L : Nat → Nat → Int64), zI XT g → pJ g → g 2 2 = g0 2 2 → g 0 13 = g0 0 13 → Ex (fX6_readWalk_5_p12 fu g L) (fun (r : Unit) (g1 : Nat → Nat → Int32) (L1 : Nat → Nat → Int64) => zI XT g1 ∧ pJ g1 ∧ g1 2 2 = g0 2 2 ∧ g1 0 13 = g0 0 13) := by
    intro g L hI hJ k0_0 k0_1
    unfold fX6_readWalk_5_p12
    refine Ex.sti (hI.upd rfl (by decide) (by decide)) (fun g2 g2e hI => ?_)
    have k0_0 : g2 2 2 = g0 2 2 := by rw [g2e]; exact k0_0
    have k0_1 : g2 0 13 = g0 0 13 := by rw [g2e]; exact k0_1
    have hJ : pJ g2 := by rw [g2e]; exact pJ.upd hJ rfl
    refine Ex.cb (sX6_advance_5 fu hfu g2 L hI hJ) (fun x3 g4 L5 hq7 => ?_)
    obtain ⟨hI, hJ, kk0, kk1⟩ := hq7
    have hI : zI XT g4 := hI
    have hJ : pJ g4 := hJ
    have k0_0 : g4 2 2 = g0 2 2 := kk0.trans k0_0
    have k0_1 : g4 0 13 = g0 0 13 := kk1.trans k0_1
    refine Ex.cb (sX6_readNumber_5 fu hfu 0 9 g4 L5 hI hJ) (fun x8 g9 L10 hq12 => ?_)
    obtain ⟨hI, hJ, kk0, kk1, rb_⟩ := hq12
    have b13 : 0 ≤ (Int32.toInt x8) ∧ (Int32.toInt x8) ≤ 9999 := rb_
    have hI : zI XT g9 := hI
    have hJ : pJ g9 := hJ
    have k0_0 : g9 2 2 = g0 2 2 := kk0.trans k0_0
    have k0_1 : g9 0 13 = g0 0 13 := kk1.trans k0_1
    refine Ex.sti (hI.updN rfl) (fun g14 g14e hI => ?_)
    have k0_0 : g14 2 2 = g0 2 2 := by rw [g14e]; exact k0_0
    have k0_1 : g14 0 13 = g0 0 13 := by rw [g14e]; exact k0_1
    have hJ : pJ g14 := by rw [g14e]; exact pJ.upd hJ rfl
    exact Ex.ret ⟨hI, hJ, k0_0, k0_1⟩
  refine Ex.ite (fun c15 => ?_) (fun c15 => ?_)
  ·
    have c15 := icc_eq (m := (Int32.toInt (g0 5 9))) (n := 0) rfl (by decide) c15
    exact J12 g0 L0 hI hJ k0_0 k0_1
  ·
    have c15 := icc_neq (m := (Int32.toInt (g0 5 9))) (n := 0) rfl (by decide) c15
    refine Ex.cb (sX6_refuse_5 fu hfu 5 g0 L0 hI hJ) (fun x16 g17 L18 hq20 => ?_)
    obtain ⟨hI, hJ, kk0, kk1⟩ := hq20
    have hI : zI XT g17 := hI
    have hJ : pJ g17 := hJ
    have k0_0 : g17 2 2 = g0 2 2 := kk0.trans k0_0
    have k0_1 : g17 0 13 = g0 0 13 := kk1.trans k0_1
    exact J12 g17 L18 hI hJ k0_0 k0_1
set_option maxHeartbeats 4000000 in
set_option maxRecDepth 100000 in
theorem sX6_readStair_5 (fu : Nat) (hfu : 1180591620717411303424 ≤ fu) (g0 : Nat → Nat → Int32) (L0 : Nat → Nat → Int64) (hI : zI XT g0) (hJ : pJ g0) : Ex (fX6_readStair_5 fu g0 L0) (fun (r : Unit) (g1 : Nat → Nat → Int32) (L1 : Nat → Nat → Int64) => zI XT g1 ∧ pJ g1 ∧ g1 2 2 = g0 2 2 ∧ g1 0 13 = g0 0 13) := by
  have k0_0 : g0 2 2 = g0 2 2 := rfl
  have k0_1 : g0 0 13 = g0 0 13 := rfl
  unfold fX6_readStair_5
  have b1 : 0 ≤ (Int32.toInt (g0 5 10)) ∧ (Int32.toInt (g0 5 10)) ≤ 1 := hI 5 10 0 1 rfl
  have J12 : ∀ (g : Nat → Nat → Int32) (L : Nat → Nat → Int64), zI XT g → pJ g → g 2 2 = g0 2 2 → g 0 13 = g0 0 13 → Ex (fX6_readStair_5_p12 fu g L) (fun (r : Unit) (g1 : Nat → Nat → Int32) (L1 : Nat → Nat → Int64) => zI XT g1 ∧ pJ g1 ∧ g1 2 2 = g0 2 2 ∧ g1 0 13 = g0 0 13) := by
    intro g L hI hJ k0_0 k0_1
    unfold fX6_readStair_5_p12
    refine Ex.sti (hI.upd rfl (by decide) (by decide)) (fun g2 g2e hI => ?_)
    have k0_0 : g2 2 2 = g0 2 2 := by rw [g2e]; exact k0_0
    have k0_1 : g2 0 13 = g0 0 13 := by rw [g2e]; exact k0_1
    have hJ : pJ g2 := by rw [g2e]; exact pJ.upd hJ rfl
    refine Ex.cb (sX6_advance_5 fu hfu g2 L hI hJ) (fun x3 g4 L5 hq7 => ?_)
    obtain ⟨hI, hJ, kk0, kk1⟩ := hq7
    have hI : zI XT g4 := hI
    have hJ : pJ g4 := hJ
    have k0_0 : g4 2 2 = g0 2 2 := kk0.trans k0_0
    have k0_1 : g4 0 13 = g0 0 13 := kk1.trans k0_1
    refine Ex.cb (sX6_readNumber_5 fu hfu 1 99 g4 L5 hI hJ) (fun x8 g9 L10 hq12 => ?_)
    obtain ⟨hI, hJ, kk0, kk1, rb_⟩ := hq12
    have b13 : 0 ≤ (Int32.toInt x8) ∧ (Int32.toInt x8) ≤ 9999 := rb_
    have hI : zI XT g9 := hI
    have hJ : pJ g9 := hJ
    have k0_0 : g9 2 2 = g0 2 2 := kk0.trans k0_0
    have k0_1 : g9 0 13 = g0 0 13 := kk1.trans k0_1
    refine Ex.sti (hI.updN rfl) (fun g14 g14e hI => ?_)
    have k0_0 : g14 2 2 = g0 2 2 := by rw [g14e]; exact k0_0
    have k0_1 : g14 0 13 = g0 0 13 := by rw [g14e]; exact k0_1
    have hJ : pJ g14 := by rw [g14e]; exact pJ.upd hJ rfl
    exact Ex.ret ⟨hI, hJ, k0_0, k0_1⟩
  refine Ex.ite (fun c15 => ?_) (fun c15 => ?_)
  ·
    have c15 := icc_eq (m := (Int32.toInt (g0 5 10))) (n := 0) rfl (by decide) c15
    exact J12 g0 L0 hI hJ k0_0 k0_1
  ·
    have c15 := icc_neq (m := (Int32.toInt (g0 5 10))) (n := 0) rfl (by decide) c15
    refine Ex.cb (sX6_refuse_5 fu hfu 5 g0 L0 hI hJ) (fun x16 g17 L18 hq20 => ?_)
    obtain ⟨hI, hJ, kk0, kk1⟩ := hq20
    have hI : zI XT g17 := hI
    have hJ : pJ g17 := hJ
    have k0_0 : g17 2 2 = g0 2 2 := kk0.trans k0_0
    have k0_1 : g17 0 13 = g0 0 13 := kk1.trans k0_1
    exact J12 g17 L18 hI hJ k0_0 k0_1
