section
set_option maxHeartbeats 4000000 in
set_option maxRecDepth 100000 in
theorem sX6_isWord_5_all (fu : Nat) (hfu : 1180591620717411303424 ≤ fu) (g0 : Nat → Nat → Int32) (L0 : Nat → Nat → Int64) (hI : zI XT g0) (hJ : pJ g0) : Ex (fX6_isWord_5_all fu g0 L0) (fun (r : Int32) (g1 : Nat → Nat → Int32) (L1 : Nat → Nat → Int64) => zI XT g1 ∧ pJ g1 ∧ g1 2 2 = g0 2 2 ∧ g1 0 13 = g0 0 13 ∧ (0 ≤ (Int32.toInt r) ∧ (Int32.toInt r) ≤ 1)) := by
  have k0_0 : g0 2 2 = g0 2 2 := rfl
  have k0_1 : g0 0 13 = g0 0 13 := rfl
  unfold fX6_isWord_5_all
  have J24 : ∀ (g : Nat → Nat → Int32) (L : Nat → Nat → Int64), zI XT g → pJ g → g 2 2 = g0 2 2 → g 0 13 = g0 0 13 → Ex (fX6_isWord_5_all_p24 fu g L) (fun (r : Int32) (g1 : Nat → Nat → Int32) (L1 : Nat → Nat → Int64) => zI XT g1 ∧ pJ g1 ∧ g1 2 2 = g0 2 2 ∧ g1 0 13 = g0 0 13 ∧ (0 ≤ (Int32.toInt r) ∧ (Int32.toInt r) ≤ 1)) := by
    intro g L hI hJ k0_0 k0_1
    unfold fX6_isWord_5_all_p24
    refine Ex.ckb rfl ?_
    exact Ex.ret ⟨hI, hJ, k0_0, k0_1, (by decide)⟩
  refine Ex.ite (fun c1 => ?_) (fun c1 => ?_)
  ·
    have c1 := icc_eq (m := (Int32.toInt (g0 5 4))) (n := 2) rfl (by decide) c1
    have b2 : 0 ≤ (Int32.toInt (g0 5 3)) ∧ (Int32.toInt (g0 5 3)) ≤ 700 := hI 5 3 0 700 rfl
    have b3 : 0 ≤ (Int32.toInt (g0 5 5)) ∧ (Int32.toInt (g0 5 5)) ≤ 700 := hI 5 5 0 700 rfl
    generalize z4q : ((g0 5 3) - (g0 5 5)) = z4
    have e5 : (Int32.toInt z4) = (Int32.toInt (g0 5 3)) - (Int32.toInt (g0 5 5)) := by rw [← z4q]; exact ic_subc rfl rfl (by omega) (by omega)
    refine Ex.ite (fun c6 => ?_) (fun c6 => ?_)
    ·
      have c6 := icc_eq (m := (Int32.toInt z4)) (n := 3) rfl (by decide) c6
      have lp28 : ∀ (v2 : Int32) (g : Nat → Nat → Int32) (L : Nat → Nat → Int64), (0 ≤ (Int32.toInt v2) ∧ (Int32.toInt v2) ≤ 3) → ((Int32.toInt (g 5 5)) = (Int32.toInt (g0 5 5))) → zI XT g → pJ g → g 2 2 = g0 2 2 → g 0 13 = g0 0 13 → Ex (fX6_isWord_5_all_l28 fu v2 g L) (fun (r : Int32) (g1 : Nat → Nat → Int32) (L1 : Nat → Nat → Int64) => zI XT g1 ∧ pJ g1 ∧ g1 2 2 = g0 2 2 ∧ g1 0 13 = g0 0 13 ∧ (0 ≤ (Int32.toInt r) ∧ (Int32.toInt r) ≤ 1)) := by
        intro v2 g L hb_v2 hn_0 hI hJ k0_0 k0_1
        unfold fX6_isWord_5_all_l28
        refine Ex.loop (fun v => ((0 ≤ (Int32.toInt (v.1)) ∧ (Int32.toInt (v.1)) ≤ 3)) ∧ (((Int32.toInt ((v.2.1) 5 5)) = (Int32.toInt (g0 5 5)))) ∧ (zI XT (v.2.1)) ∧ (pJ (v.2.1)) ∧ ((v.2.1) 2 2 = g0 2 2) ∧ ((v.2.1) 0 13 = g0 0 13)) (fun v => 4 - (Int32.toInt (v.1))) (by omega) (by show 4 - (Int32.toInt v2) < (fu : Int); omega) ⟨hb_v2, hn_0, hI, hJ, k0_0, k0_1⟩ (fun k28 v hv ih28 => ?_)
        obtain ⟨v2, g, L⟩ := v
        obtain ⟨hb_v2, hn_0, hI, hJ, k0_0, k0_1⟩ := hv
        have hb_v2 : (0 ≤ (Int32.toInt v2) ∧ (Int32.toInt v2) ≤ 3) := hb_v2
        have hn_0 : ((Int32.toInt (g 5 5)) = (Int32.toInt (g0 5 5))) := hn_0
        have hI : zI XT g := hI
        have hJ : pJ g := hJ
        have k0_0 : g 2 2 = g0 2 2 := k0_0
        have k0_1 : g 0 13 = g0 0 13 := k0_1
        have ih28 : ∀ v' : Int32 × (Nat → Nat → Int32) × (Nat → Nat → Int64), (((0 ≤ (Int32.toInt (v'.1)) ∧ (Int32.toInt (v'.1)) ≤ 3)) ∧ (((Int32.toInt ((v'.2.1) 5 5)) = (Int32.toInt (g0 5 5)))) ∧ (zI XT (v'.2.1)) ∧ (pJ (v'.2.1)) ∧ ((v'.2.1) 2 2 = g0 2 2) ∧ ((v'.2.1) 0 13 = g0 0 13)) → 4 - (Int32.toInt (v'.1)) < 4 - (Int32.toInt v2) → 0 < 4 - (Int32.toInt v2) → Ex (k28 v') (fun (r : Int32) (g1 : Nat → Nat → Int32) (L1 : Nat → Nat → Int64) => zI XT g1 ∧ pJ g1 ∧ g1 2 2 = g0 2 2 ∧ g1 0 13 = g0 0 13 ∧ (0 ≤ (Int32.toInt r) ∧ (Int32.toInt r) ≤ 1)) := ih28
        show Ex (fX6_isWord_5_all_s28 fu k28 v2 g L) (fun (r : Int32) (g1 : Nat → Nat → Int32) (L1 : Nat → Nat → Int64) => zI XT g1 ∧ pJ g1 ∧ g1 2 2 = g0 2 2 ∧ g1 0 13 = g0 0 13 ∧ (0 ≤ (Int32.toInt r) ∧ (Int32.toInt r) ≤ 1))
        unfold fX6_isWord_5_all_s28
        refine Ex.ite (fun c7 => ?_) (fun c7 => ?_)
        ·
          have c7 := icc_le (m := 3) (n := (Int32.toInt v2)) (by decide) rfl c7
          refine Ex.ckb rfl ?_
          exact Ex.ret ⟨hI, hJ, k0_0, k0_1, (by decide)⟩
        ·
          have c7 := icc_nle (m := 3) (n := (Int32.toInt v2)) (by decide) rfl c7
          have b8 : 0 ≤ (Int32.toInt (g 5 5)) ∧ (Int32.toInt (g 5 5)) ≤ 700 := hI 5 5 0 700 rfl
          generalize z9q : ((g 5 5) + v2) = z9
          have e10 : (Int32.toInt z9) = (Int32.toInt (g 5 5)) + (Int32.toInt v2) := by rw [← z9q]; exact ic_addc rfl rfl (by omega) (by omega)
          refine Ex.ck (by omega) (by omega) ?_
          have b11 : 0 ≤ (Int32.toInt (g 14 (Int32.toNatClampNeg z9))) ∧ (Int32.toInt (g 14 (Int32.toNatClampNeg z9))) ≤ 255 := hI 14 _ 0 255 rfl
          refine Ex.ck (by omega) (by omega) ?_
          refine Ex.ite (fun c12 => ?_) (fun c12 => ?_)
          ·
            have c12 := icc_eq (m := (Int32.toInt (g 14 (Int32.toNatClampNeg z9)))) (n := (Int32.toInt (sch 4 (Int32.toNatClampNeg v2)))) rfl rfl c12
            generalize z13q : (v2 + 1) = z13
            have e14 : (Int32.toInt z13) = (Int32.toInt v2) + 1 := by rw [← z13q]; exact ic_addc rfl (by decide) (by omega) (by omega)
            exact ih28 (z13, g, L) ⟨(show (0 ≤ (Int32.toInt z13) ∧ (Int32.toInt z13) ≤ 3) from by omega), (show ((Int32.toInt (g 5 5)) = (Int32.toInt (g0 5 5))) from by omega), hI, hJ, k0_0, k0_1⟩ (by show 4 - (Int32.toInt z13) < _; omega) (by omega)
          ·
            have c12 := icc_neq (m := (Int32.toInt (g 14 (Int32.toNatClampNeg z9)))) (n := (Int32.toInt (sch 4 (Int32.toNatClampNeg v2)))) rfl rfl c12
            refine Ex.ckb rfl ?_
            exact Ex.ret ⟨hI, hJ, k0_0, k0_1, (by decide)⟩
      have hc_ : (0 : Int32).toInt = 0 := by decide
      exact lp28 0 g0 L0 (by decide) (by omega) hI hJ k0_0 k0_1
    ·
      have c6 := icc_neq (m := (Int32.toInt z4)) (n := 3) rfl (by decide) c6
      exact J24 g0 L0 hI hJ k0_0 k0_1
  ·
    have c1 := icc_neq (m := (Int32.toInt (g0 5 4))) (n := 2) rfl (by decide) c1
    exact J24 g0 L0 hI hJ k0_0 k0_1
set_option maxHeartbeats 4000000 in
set_option maxRecDepth 100000 in
theorem sX6_isWord_5_some (fu : Nat) (hfu : 1180591620717411303424 ≤ fu) (g0 : Nat → Nat → Int32) (L0 : Nat → Nat → Int64) (hI : zI XT g0) (hJ : pJ g0) : Ex (fX6_isWord_5_some fu g0 L0) (fun (r : Int32) (g1 : Nat → Nat → Int32) (L1 : Nat → Nat → Int64) => zI XT g1 ∧ pJ g1 ∧ g1 2 2 = g0 2 2 ∧ g1 0 13 = g0 0 13 ∧ (0 ≤ (Int32.toInt r) ∧ (Int32.toInt r) ≤ 1)) := by
  have k0_0 : g0 2 2 = g0 2 2 := rfl
  have k0_1 : g0 0 13 = g0 0 13 := rfl
  unfold fX6_isWord_5_some
  have J24 : ∀ (g : Nat → Nat → Int32) (L : Nat → Nat → Int64), zI XT g → pJ g → g 2 2 = g0 2 2 → g 0 13 = g0 0 13 → Ex (fX6_isWord_5_some_p24 fu g L) (fun (r : Int32) (g1 : Nat → Nat → Int32) (L1 : Nat → Nat → Int64) => zI XT g1 ∧ pJ g1 ∧ g1 2 2 = g0 2 2 ∧ g1 0 13 = g0 0 13 ∧ (0 ≤ (Int32.toInt r) ∧ (Int32.toInt r) ≤ 1)) := by
    intro g L hI hJ k0_0 k0_1
    unfold fX6_isWord_5_some_p24
    refine Ex.ckb rfl ?_
    exact Ex.ret ⟨hI, hJ, k0_0, k0_1, (by decide)⟩
  refine Ex.ite (fun c1 => ?_) (fun c1 => ?_)
  ·
    have c1 := icc_eq (m := (Int32.toInt (g0 5 4))) (n := 2) rfl (by decide) c1
    have b2 : 0 ≤ (Int32.toInt (g0 5 3)) ∧ (Int32.toInt (g0 5 3)) ≤ 700 := hI 5 3 0 700 rfl
    have b3 : 0 ≤ (Int32.toInt (g0 5 5)) ∧ (Int32.toInt (g0 5 5)) ≤ 700 := hI 5 5 0 700 rfl
    generalize z4q : ((g0 5 3) - (g0 5 5)) = z4
    have e5 : (Int32.toInt z4) = (Int32.toInt (g0 5 3)) - (Int32.toInt (g0 5 5)) := by rw [← z4q]; exact ic_subc rfl rfl (by omega) (by omega)
    refine Ex.ite (fun c6 => ?_) (fun c6 => ?_)
    ·
      have c6 := icc_eq (m := (Int32.toInt z4)) (n := 4) rfl (by decide) c6
      have lp28 : ∀ (v2 : Int32) (g : Nat → Nat → Int32) (L : Nat → Nat → Int64), (0 ≤ (Int32.toInt v2) ∧ (Int32.toInt v2) ≤ 4) → ((Int32.toInt (g 5 5)) = (Int32.toInt (g0 5 5))) → zI XT g → pJ g → g 2 2 = g0 2 2 → g 0 13 = g0 0 13 → Ex (fX6_isWord_5_some_l28 fu v2 g L) (fun (r : Int32) (g1 : Nat → Nat → Int32) (L1 : Nat → Nat → Int64) => zI XT g1 ∧ pJ g1 ∧ g1 2 2 = g0 2 2 ∧ g1 0 13 = g0 0 13 ∧ (0 ≤ (Int32.toInt r) ∧ (Int32.toInt r) ≤ 1)) := by
        intro v2 g L hb_v2 hn_0 hI hJ k0_0 k0_1
        unfold fX6_isWord_5_some_l28
        refine Ex.loop (fun v => ((0 ≤ (Int32.toInt (v.1)) ∧ (Int32.toInt (v.1)) ≤ 4)) ∧ (((Int32.toInt ((v.2.1) 5 5)) = (Int32.toInt (g0 5 5)))) ∧ (zI XT (v.2.1)) ∧ (pJ (v.2.1)) ∧ ((v.2.1) 2 2 = g0 2 2) ∧ ((v.2.1) 0 13 = g0 0 13)) (fun v => 5 - (Int32.toInt (v.1))) (by omega) (by show 5 - (Int32.toInt v2) < (fu : Int); omega) ⟨hb_v2, hn_0, hI, hJ, k0_0, k0_1⟩ (fun k28 v hv ih28 => ?_)
        obtain ⟨v2, g, L⟩ := v
        obtain ⟨hb_v2, hn_0, hI, hJ, k0_0, k0_1⟩ := hv
        have hb_v2 : (0 ≤ (Int32.toInt v2) ∧ (Int32.toInt v2) ≤ 4) := hb_v2
        have hn_0 : ((Int32.toInt (g 5 5)) = (Int32.toInt (g0 5 5))) := hn_0
        have hI : zI XT g := hI
        have hJ : pJ g := hJ
        have k0_0 : g 2 2 = g0 2 2 := k0_0
        have k0_1 : g 0 13 = g0 0 13 := k0_1
        have ih28 : ∀ v' : Int32 × (Nat → Nat → Int32) × (Nat → Nat → Int64), (((0 ≤ (Int32.toInt (v'.1)) ∧ (Int32.toInt (v'.1)) ≤ 4)) ∧ (((Int32.toInt ((v'.2.1) 5 5)) = (Int32.toInt (g0 5 5)))) ∧ (zI XT (v'.2.1)) ∧ (pJ (v'.2.1)) ∧ ((v'.2.1) 2 2 = g0 2 2) ∧ ((v'.2.1) 0 13 = g0 0 13)) → 5 - (Int32.toInt (v'.1)) < 5 - (Int32.toInt v2) → 0 < 5 - (Int32.toInt v2) → Ex (k28 v') (fun (r : Int32) (g1 : Nat → Nat → Int32) (L1 : Nat → Nat → Int64) => zI XT g1 ∧ pJ g1 ∧ g1 2 2 = g0 2 2 ∧ g1 0 13 = g0 0 13 ∧ (0 ≤ (Int32.toInt r) ∧ (Int32.toInt r) ≤ 1)) := ih28
        show Ex (fX6_isWord_5_some_s28 fu k28 v2 g L) (fun (r : Int32) (g1 : Nat → Nat → Int32) (L1 : Nat → Nat → Int64) => zI XT g1 ∧ pJ g1 ∧ g1 2 2 = g0 2 2 ∧ g1 0 13 = g0 0 13 ∧ (0 ≤ (Int32.toInt r) ∧ (Int32.toInt r) ≤ 1))
        unfold fX6_isWord_5_some_s28
        refine Ex.ite (fun c7 => ?_) (fun c7 => ?_)
        ·
          have c7 := icc_le (m := 4) (n := (Int32.toInt v2)) (by decide) rfl c7
          refine Ex.ckb rfl ?_
          exact Ex.ret ⟨hI, hJ, k0_0, k0_1, (by decide)⟩
        ·
          have c7 := icc_nle (m := 4) (n := (Int32.toInt v2)) (by decide) rfl c7
          have b8 : 0 ≤ (Int32.toInt (g 5 5)) ∧ (Int32.toInt (g 5 5)) ≤ 700 := hI 5 5 0 700 rfl
          generalize z9q : ((g 5 5) + v2) = z9
          have e10 : (Int32.toInt z9) = (Int32.toInt (g 5 5)) + (Int32.toInt v2) := by rw [← z9q]; exact ic_addc rfl rfl (by omega) (by omega)
          refine Ex.ck (by omega) (by omega) ?_
          have b11 : 0 ≤ (Int32.toInt (g 14 (Int32.toNatClampNeg z9))) ∧ (Int32.toInt (g 14 (Int32.toNatClampNeg z9))) ≤ 255 := hI 14 _ 0 255 rfl
          refine Ex.ck (by omega) (by omega) ?_
          refine Ex.ite (fun c12 => ?_) (fun c12 => ?_)
          ·
            have c12 := icc_eq (m := (Int32.toInt (g 14 (Int32.toNatClampNeg z9)))) (n := (Int32.toInt (sch 5 (Int32.toNatClampNeg v2)))) rfl rfl c12
            generalize z13q : (v2 + 1) = z13
            have e14 : (Int32.toInt z13) = (Int32.toInt v2) + 1 := by rw [← z13q]; exact ic_addc rfl (by decide) (by omega) (by omega)
            exact ih28 (z13, g, L) ⟨(show (0 ≤ (Int32.toInt z13) ∧ (Int32.toInt z13) ≤ 4) from by omega), (show ((Int32.toInt (g 5 5)) = (Int32.toInt (g0 5 5))) from by omega), hI, hJ, k0_0, k0_1⟩ (by show 5 - (Int32.toInt z13) < _; omega) (by omega)
          ·
            have c12 := icc_neq (m := (Int32.toInt (g 14 (Int32.toNatClampNeg z9)))) (n := (Int32.toInt (sch 5 (Int32.toNatClampNeg v2)))) rfl rfl c12
            refine Ex.ckb rfl ?_
            exact Ex.ret ⟨hI, hJ, k0_0, k0_1, (by decide)⟩
      have hc_ : (0 : Int32).toInt = 0 := by decide
      exact lp28 0 g0 L0 (by decide) (by omega) hI hJ k0_0 k0_1
    ·
      have c6 := icc_neq (m := (Int32.toInt z4)) (n := 4) rfl (by decide) c6
      exact J24 g0 L0 hI hJ k0_0 k0_1
  ·
    have c1 := icc_neq (m := (Int32.toInt (g0 5 4))) (n := 2) rfl (by decide) c1
    exact J24 g0 L0 hI hJ k0_0 k0_1
set_option maxHeartbeats 4000000 in
set_option maxRecDepth 100000 in
theorem sX6_readWaited_5_les (fu : Nat) (hfu : 1180591620717411303424 ≤ fu) (q0_ : Nat) (g0 : Nat → Nat → Int32) (L0 : Nat → Nat → Int64) (hI : zI XT g0) (hJ : pJ g0) (q0_l : 57 ≤ q0_) (q0_h : q0_ < 81) (hc0 : (Int32.toInt (g0 2 2)) ≤ 11) : Ex (fX6_readWaited_5_les fu q0_ g0 L0) (fun (r : Unit) (g1 : Nat → Nat → Int32) (L1 : Nat → Nat → Int64) => zI XT g1 ∧ pJ g1 ∧ g1 2 2 = g0 2 2 ∧ g1 0 13 = g0 0 13) := by
  have k0_0 : g0 2 2 = g0 2 2 := rfl
  have k0_1 : g0 0 13 = g0 0 13 := rfl
  have w1_0 := hI 2 2 0 12 rfl
  unfold fX6_readWaited_5_les
  have lp2 : ∀ (q1_ : Nat) (v2 : Int32) (g : Nat → Nat → Int32) (L : Nat → Nat → Int64), 57 ≤ q1_ → q1_ < 81 → (0 ≤ (Int32.toInt v2) ∧ (Int32.toInt v2) ≤ 7) → (0 ≤ (Int32.toInt (g 2 2)) ∧ (Int32.toInt (g 2 2)) ≤ 11) → zI XT g → pJ g → g 2 2 = g0 2 2 → g 0 13 = g0 0 13 → Ex (fX6_readWaited_5_les_l2 fu q1_ v2 g L) (fun (r : Unit) (g1 : Nat → Nat → Int32) (L1 : Nat → Nat → Int64) => zI XT g1 ∧ pJ g1 ∧ g1 2 2 = g0 2 2 ∧ g1 0 13 = g0 0 13) := by
    intro q1_ v2 g L q1_l q1_h hb_v2 hw_2_2 hI hJ k0_0 k0_1
    unfold fX6_readWaited_5_les_l2
    refine Ex.loop (fun v => (57 ≤ q1_) ∧ (q1_ < 81) ∧ ((0 ≤ (Int32.toInt (v.1)) ∧ (Int32.toInt (v.1)) ≤ 7)) ∧ ((0 ≤ (Int32.toInt ((v.2.1) 2 2)) ∧ (Int32.toInt ((v.2.1) 2 2)) ≤ 11)) ∧ (zI XT (v.2.1)) ∧ (pJ (v.2.1)) ∧ ((v.2.1) 2 2 = g0 2 2) ∧ ((v.2.1) 0 13 = g0 0 13)) (fun v => 8 - (Int32.toInt (v.1))) (by omega) (by show 8 - (Int32.toInt v2) < (fu : Int); omega) ⟨q1_l, q1_h, hb_v2, hw_2_2, hI, hJ, k0_0, k0_1⟩ (fun k2 v hv ih2 => ?_)
    obtain ⟨v2, g, L⟩ := v
    obtain ⟨q1_l, q1_h, hb_v2, hw_2_2, hI, hJ, k0_0, k0_1⟩ := hv
    have q1_l : 57 ≤ q1_ := q1_l
    have q1_h : q1_ < 81 := q1_h
    have hb_v2 : (0 ≤ (Int32.toInt v2) ∧ (Int32.toInt v2) ≤ 7) := hb_v2
    have hw_2_2 : (0 ≤ (Int32.toInt (g 2 2)) ∧ (Int32.toInt (g 2 2)) ≤ 11) := hw_2_2
    have hI : zI XT g := hI
    have hJ : pJ g := hJ
    have k0_0 : g 2 2 = g0 2 2 := k0_0
    have k0_1 : g 0 13 = g0 0 13 := k0_1
    have ih2 : ∀ v' : Int32 × (Nat → Nat → Int32) × (Nat → Nat → Int64), ((57 ≤ q1_) ∧ (q1_ < 81) ∧ ((0 ≤ (Int32.toInt (v'.1)) ∧ (Int32.toInt (v'.1)) ≤ 7)) ∧ ((0 ≤ (Int32.toInt ((v'.2.1) 2 2)) ∧ (Int32.toInt ((v'.2.1) 2 2)) ≤ 11)) ∧ (zI XT (v'.2.1)) ∧ (pJ (v'.2.1)) ∧ ((v'.2.1) 2 2 = g0 2 2) ∧ ((v'.2.1) 0 13 = g0 0 13)) → 8 - (Int32.toInt (v'.1)) < 8 - (Int32.toInt v2) → 0 < 8 - (Int32.toInt v2) → Ex (k2 v') (fun (r : Unit) (g1 : Nat → Nat → Int32) (L1 : Nat → Nat → Int64) => zI XT g1 ∧ pJ g1 ∧ g1 2 2 = g0 2 2 ∧ g1 0 13 = g0 0 13) := ih2
    show Ex (fX6_readWaited_5_les_s2 fu q1_ k2 v2 g L) (fun (r : Unit) (g1 : Nat → Nat → Int32) (L1 : Nat → Nat → Int64) => zI XT g1 ∧ pJ g1 ∧ g1 2 2 = g0 2 2 ∧ g1 0 13 = g0 0 13)
    unfold fX6_readWaited_5_les_s2
    have J102 : ∀ (q1_ : Nat) (g : Nat → Nat → Int32) (L : Nat → Nat → Int64), 57 ≤ q1_ → q1_ < 81 → (0 ≤ (Int32.toInt (g 2 2)) ∧ (Int32.toInt (g 2 2)) ≤ 11) → zI XT g → pJ g → g 2 2 = g0 2 2 → g 0 13 = g0 0 13 → Ex (fX6_readWaited_5_les_p102 fu q1_ g L) (fun (r : Unit) (g1 : Nat → Nat → Int32) (L1 : Nat → Nat → Int64) => zI XT g1 ∧ pJ g1 ∧ g1 2 2 = g0 2 2 ∧ g1 0 13 = g0 0 13) := by
      intro q1_ g L q1_l q1_h hw_2_2 hI hJ k0_0 k0_1
      unfold fX6_readWaited_5_les_p102
      have b1 : 0 ≤ (Int32.toInt (g q1_ 1)) ∧ (Int32.toInt (g q1_ 1)) ≤ 6 := hI q1_ 1 0 6 (xt_les (by omega) (by omega))
      have J119 : ∀ (q1_ : Nat) (g : Nat → Nat → Int32) (L : Nat → Nat → Int64), 57 ≤ q1_ → q1_ < 81 → (0 ≤ (Int32.toInt (g 2 2)) ∧ (Int32.toInt (g 2 2)) ≤ 11) → zI XT g → pJ g → g 2 2 = g0 2 2 → g 0 13 = g0 0 13 → Ex (fX6_readWaited_5_les_p119 fu q1_ g L) (fun (r : Unit) (g1 : Nat → Nat → Int32) (L1 : Nat → Nat → Int64) => zI XT g1 ∧ pJ g1 ∧ g1 2 2 = g0 2 2 ∧ g1 0 13 = g0 0 13) := by
        intro q1_ g L q1_l q1_h hw_2_2 hI hJ k0_0 k0_1
        unfold fX6_readWaited_5_les_p119
        have b2 : 0 ≤ (Int32.toInt (g q1_ 1)) ∧ (Int32.toInt (g q1_ 1)) ≤ 6 := hI q1_ 1 0 6 (xt_les (by omega) (by omega))
        have J131 : ∀ (g : Nat → Nat → Int32) (L : Nat → Nat → Int64), (0 ≤ (Int32.toInt (g 2 2)) ∧ (Int32.toInt (g 2 2)) ≤ 11) → zI XT g → pJ g → g 2 2 = g0 2 2 → g 0 13 = g0 0 13 → Ex (fX6_readWaited_5_les_p131 fu g L) (fun (r : Unit) (g1 : Nat → Nat → Int32) (L1 : Nat → Nat → Int64) => zI XT g1 ∧ pJ g1 ∧ g1 2 2 = g0 2 2 ∧ g1 0 13 = g0 0 13) := by
          intro g L hw_2_2 hI hJ k0_0 k0_1
          unfold fX6_readWaited_5_les_p131
          exact Ex.ret ⟨hI, hJ, k0_0, k0_1⟩
        refine Ex.ite (fun c3 => ?_) (fun c3 => ?_)
        ·
          have c3 := icc_eq (m := (Int32.toInt (g q1_ 1))) (n := 0) rfl (by decide) c3
          refine Ex.cb (sX6_refuse_5 fu hfu 1 g L hI hJ) (fun x4 g5 L6 hq8 => ?_)
          obtain ⟨hI, hJ, kk0, kk1⟩ := hq8
          have hI : zI XT g5 := hI
          have hJ : pJ g5 := hJ
          have w9 : (Int32.toInt (g5 2 2)) = (Int32.toInt (g 2 2)) := congrArg Int32.toInt kk0
          have k0_0 : g5 2 2 = g0 2 2 := kk0.trans k0_0
          have k0_1 : g5 0 13 = g0 0 13 := kk1.trans k0_1
          exact J131 g5 L6 (by omega) hI hJ k0_0 k0_1
        ·
          have c3 := icc_neq (m := (Int32.toInt (g q1_ 1))) (n := 0) rfl (by decide) c3
          exact J131 g L (by omega) hI hJ k0_0 k0_1
      refine Ex.ite (fun c10 => ?_) (fun c10 => ?_)
      ·
        have c10 := icc_le (m := (Int32.toInt (g q1_ 10))) (n := (Int32.toInt (g q1_ 1))) rfl rfl c10
        exact J119 q1_ g L (by omega) (by omega) (by omega) hI hJ k0_0 k0_1
      ·
        have c10 := icc_nle (m := (Int32.toInt (g q1_ 10))) (n := (Int32.toInt (g q1_ 1))) rfl rfl c10
        refine Ex.cb (sX6_refuse_5 fu hfu 6 g L hI hJ) (fun x11 g12 L13 hq15 => ?_)
        obtain ⟨hI, hJ, kk0, kk1⟩ := hq15
        have hI : zI XT g12 := hI
        have hJ : pJ g12 := hJ
        have w16 : (Int32.toInt (g12 2 2)) = (Int32.toInt (g 2 2)) := congrArg Int32.toInt kk0
        have k0_0 : g12 2 2 = g0 2 2 := kk0.trans k0_0
        have k0_1 : g12 0 13 = g0 0 13 := kk1.trans k0_1
        exact J119 q1_ g12 L13 (by omega) (by omega) (by omega) hI hJ k0_0 k0_1
    refine Ex.ite (fun c17 => ?_) (fun c17 => ?_)
    ·
      have c17 := icc_lt (m := 6) (n := (Int32.toInt v2)) (by decide) rfl c17
      exact J102 q1_ g L (by omega) (by omega) (by omega) hI hJ k0_0 k0_1
    ·
      have c17 := icc_nlt (m := 6) (n := (Int32.toInt v2)) (by decide) rfl c17
      refine Ex.ite (fun c18 => ?_) (fun c18 => ?_)
      ·
        have c18 := icc_eq (m := (Int32.toInt (g 5 4))) (n := 1) rfl (by decide) c18
        refine Ex.cb (sX6_isTooLong_5 fu hfu g L hI hJ) (fun x19 g20 L21 hq23 => ?_)
        obtain ⟨hI, hJ, kk0, kk1, rb_⟩ := hq23
        have b24 : 0 ≤ (Int32.toInt x19) ∧ (Int32.toInt x19) ≤ 1 := rb_
        have hI : zI XT g20 := hI
        have hJ : pJ g20 := hJ
        have w25 : (Int32.toInt (g20 2 2)) = (Int32.toInt (g 2 2)) := congrArg Int32.toInt kk0
        have k0_0 : g20 2 2 = g0 2 2 := kk0.trans k0_0
        have k0_1 : g20 0 13 = g0 0 13 := kk1.trans k0_1
        have J96 : ∀ (g : Nat → Nat → Int32) (L : Nat → Nat → Int64), 57 ≤ q1_ → q1_ < 81 → (0 ≤ (Int32.toInt v2) ∧ (Int32.toInt v2) ≤ 6) → (0 ≤ (Int32.toInt (g 2 2)) ∧ (Int32.toInt (g 2 2)) ≤ 11) → zI XT g → pJ g → g 2 2 = g0 2 2 → g 0 13 = g0 0 13 → Ex (fX6_readWaited_5_les_p96 fu k2 q1_ v2 g L) (fun (r : Unit) (g1 : Nat → Nat → Int32) (L1 : Nat → Nat → Int64) => zI XT g1 ∧ pJ g1 ∧ g1 2 2 = g0 2 2 ∧ g1 0 13 = g0 0 13) := by
          intro g L q1_l q1_h hb_v2 hw_2_2 hI hJ k0_0 k0_1
          unfold fX6_readWaited_5_les_p96
          generalize z26q : (v2 + 1) = z26
          have e27 : (Int32.toInt z26) = (Int32.toInt v2) + 1 := by rw [← z26q]; exact ic_addc rfl (by decide) (by omega) (by omega)
          exact ih2 (z26, g, L) ⟨(show 57 ≤ q1_ from by omega), (show q1_ < 81 from by omega), (show (0 ≤ (Int32.toInt z26) ∧ (Int32.toInt z26) ≤ 7) from by omega), (show (0 ≤ (Int32.toInt (g 2 2)) ∧ (Int32.toInt (g 2 2)) ≤ 11) from by omega), hI, hJ, k0_0, k0_1⟩ (by show 8 - (Int32.toInt z26) < _; omega) (by omega)
        have J32 : ∀ (g : Nat → Nat → Int32) (L : Nat → Nat → Int64), 57 ≤ q1_ → q1_ < 81 → (0 ≤ (Int32.toInt v2) ∧ (Int32.toInt v2) ≤ 6) → (0 ≤ (Int32.toInt (g 2 2)) ∧ (Int32.toInt (g 2 2)) ≤ 11) → zI XT g → pJ g → g 2 2 = g0 2 2 → g 0 13 = g0 0 13 → Ex (fX6_readWaited_5_les_p32 fu k2 q1_ v2 g L) (fun (r : Unit) (g1 : Nat → Nat → Int32) (L1 : Nat → Nat → Int64) => zI XT g1 ∧ pJ g1 ∧ g1 2 2 = g0 2 2 ∧ g1 0 13 = g0 0 13) := by
          intro g L q1_l q1_h hb_v2 hw_2_2 hI hJ k0_0 k0_1
          unfold fX6_readWaited_5_les_p32
          refine Ex.cb (sX6_refuse_5 fu hfu 2 g L hI hJ) (fun x28 g29 L30 hq32 => ?_)
          obtain ⟨hI, hJ, kk0, kk1⟩ := hq32
          have hI : zI XT g29 := hI
          have hJ : pJ g29 := hJ
          have w33 : (Int32.toInt (g29 2 2)) = (Int32.toInt (g 2 2)) := congrArg Int32.toInt kk0
          have k0_0 : g29 2 2 = g0 2 2 := kk0.trans k0_0
          have k0_1 : g29 0 13 = g0 0 13 := kk1.trans k0_1
          exact J96 g29 L30 (by omega) (by omega) (by omega) (by omega) hI hJ k0_0 k0_1
        refine Ex.ite (fun c34 => ?_) (fun c34 => ?_)
        ·
          have c34 := icc_eq (m := (Int32.toInt x19)) (n := 0) rfl (by decide) c34
          have b35 : 0 ≤ (Int32.toInt (g20 q1_ 1)) ∧ (Int32.toInt (g20 q1_ 1)) ≤ 6 := hI q1_ 1 0 6 (xt_les (by omega) (by omega))
          refine Ex.ite (fun c36 => ?_) (fun c36 => ?_)
          ·
            have c36 := icc_lt (m := (Int32.toInt (g20 q1_ 1))) (n := 6) rfl (by decide) c36
            have b37 : 0 ≤ (Int32.toInt (g20 5 6)) ∧ (Int32.toInt (g20 5 6)) ≤ 9999 := hI 5 6 0 9999 rfl
            have b38 : 0 ≤ (Int32.toInt (g20 2 2)) ∧ (Int32.toInt (g20 2 2)) ≤ 12 := hI 2 2 0 12 rfl
            refine Ex.ite (fun c39 => ?_) (fun c39 => ?_)
            ·
              have c39 := icc_lt (m := (Int32.toInt (g20 5 6))) (n := (Int32.toInt (g20 2 2))) rfl rfl c39
              have b40 : 0 ≤ (Int32.toInt (g20 5 6)) ∧ (Int32.toInt (g20 5 6)) ≤ 9999 := hI 5 6 0 9999 rfl
              generalize z41q : (((g20 q1_ 2) : Int32) >>> (((g20 5 6) : Int32) &&& 31) : Int32) = z41
              generalize z42q : (z41 &&& 1) = z42
              have b43 : 0 ≤ (Int32.toInt z42) ∧ (Int32.toInt z42) ≤ 1 := by rw [← z42q]; exact ic_and1 _
              refine Ex.ite (fun c44 => ?_) (fun c44 => ?_)
              ·
                have c44 := icc_eq (m := (Int32.toInt z42)) (n := 0) rfl (by decide) c44
                refine Ex.cb (sX5_waitFor_les fu hfu q1_ (g20 5 6) g20 L21 hI hJ (by omega) (by omega) (by omega)) (fun x45 g46 L47 hq49 => ?_)
                obtain ⟨hI, hJ, kk0, kk1⟩ := hq49
                have hI : zI XT g46 := hI
                have hJ : pJ g46 := hJ
                have w50 : (Int32.toInt (g46 2 2)) = (Int32.toInt (g20 2 2)) := congrArg Int32.toInt kk0
                have k0_0 : g46 2 2 = g0 2 2 := kk0.trans k0_0
                have k0_1 : g46 0 13 = g0 0 13 := kk1.trans k0_1
                refine Ex.cb (sX6_advance_5 fu hfu g46 L47 hI hJ) (fun x51 g52 L53 hq55 => ?_)
                obtain ⟨hI, hJ, kk0, kk1⟩ := hq55
                have hI : zI XT g52 := hI
                have hJ : pJ g52 := hJ
                have w56 : (Int32.toInt (g52 2 2)) = (Int32.toInt (g46 2 2)) := congrArg Int32.toInt kk0
                have k0_0 : g52 2 2 = g0 2 2 := kk0.trans k0_0
                have k0_1 : g52 0 13 = g0 0 13 := kk1.trans k0_1
                exact J96 g52 L53 (by omega) (by omega) (by omega) (by omega) hI hJ k0_0 k0_1
              ·
                have c44 := icc_neq (m := (Int32.toInt z42)) (n := 0) rfl (by decide) c44
                refine Ex.cb (sX6_refuse_5 fu hfu 4 g20 L21 hI hJ) (fun x57 g58 L59 hq61 => ?_)
                obtain ⟨hI, hJ, kk0, kk1⟩ := hq61
                have hI : zI XT g58 := hI
                have hJ : pJ g58 := hJ
                have w62 : (Int32.toInt (g58 2 2)) = (Int32.toInt (g20 2 2)) := congrArg Int32.toInt kk0
                have k0_0 : g58 2 2 = g0 2 2 := kk0.trans k0_0
                have k0_1 : g58 0 13 = g0 0 13 := kk1.trans k0_1
                exact J96 g58 L59 (by omega) (by omega) (by omega) (by omega) hI hJ k0_0 k0_1
            ·
              have c39 := icc_nlt (m := (Int32.toInt (g20 5 6))) (n := (Int32.toInt (g20 2 2))) rfl rfl c39
              refine Ex.cb (sX6_refuse_5 fu hfu 3 g20 L21 hI hJ) (fun x63 g64 L65 hq67 => ?_)
              obtain ⟨hI, hJ, kk0, kk1⟩ := hq67
              have hI : zI XT g64 := hI
              have hJ : pJ g64 := hJ
              have w68 : (Int32.toInt (g64 2 2)) = (Int32.toInt (g20 2 2)) := congrArg Int32.toInt kk0
              have k0_0 : g64 2 2 = g0 2 2 := kk0.trans k0_0
              have k0_1 : g64 0 13 = g0 0 13 := kk1.trans k0_1
              exact J96 g64 L65 (by omega) (by omega) (by omega) (by omega) hI hJ k0_0 k0_1
          ·
            have c36 := icc_nlt (m := (Int32.toInt (g20 q1_ 1))) (n := 6) rfl (by decide) c36
            exact J32 g20 L21 (by omega) (by omega) (by omega) (by omega) hI hJ k0_0 k0_1
        ·
          have c34 := icc_neq (m := (Int32.toInt x19)) (n := 0) rfl (by decide) c34
          exact J32 g20 L21 (by omega) (by omega) (by omega) (by omega) hI hJ k0_0 k0_1
      ·
        have c18 := icc_neq (m := (Int32.toInt (g 5 4))) (n := 1) rfl (by decide) c18
        exact J102 q1_ g L (by omega) (by omega) (by omega) hI hJ k0_0 k0_1
  exact lp2 q0_ 0 g0 L0 (by omega) (by omega) (by decide) (by omega) hI hJ k0_0 k0_1
set_option maxHeartbeats 4000000 in
set_option maxRecDepth 100000 in
theorem sX6_isWord_5_limit (fu : Nat) (hfu : 1180591620717411303424 ≤ fu) (g0 : Nat → Nat → Int32) (L0 : Nat → Nat → Int64) (hI : zI XT g0) (hJ : pJ g0) : Ex (fX6_isWord_5_limit fu g0 L0) (fun (r : Int32) (g1 : Nat → Nat → Int32) (L1 : Nat → Nat → Int64) => zI XT g1 ∧ pJ g1 ∧ g1 2 2 = g0 2 2 ∧ g1 0 13 = g0 0 13 ∧ (0 ≤ (Int32.toInt r) ∧ (Int32.toInt r) ≤ 1)) := by
  have k0_0 : g0 2 2 = g0 2 2 := rfl
  have k0_1 : g0 0 13 = g0 0 13 := rfl
  unfold fX6_isWord_5_limit
  have J24 : ∀ (g : Nat → Nat → Int32) (L : Nat → Nat → Int64), zI XT g → pJ g → g 2 2 = g0 2 2 → g 0 13 = g0 0 13 → Ex (fX6_isWord_5_limit_p24 fu g L) (fun (r : Int32) (g1 : Nat → Nat → Int32) (L1 : Nat → Nat → Int64) => zI XT g1 ∧ pJ g1 ∧ g1 2 2 = g0 2 2 ∧ g1 0 13 = g0 0 13 ∧ (0 ≤ (Int32.toInt r) ∧ (Int32.toInt r) ≤ 1)) := by
    intro g L hI hJ k0_0 k0_1
    unfold fX6_isWord_5_limit_p24
    refine Ex.ckb rfl ?_
    exact Ex.ret ⟨hI, hJ, k0_0, k0_1, (by decide)⟩
  refine Ex.ite (fun c1 => ?_) (fun c1 => ?_)
  ·
    have c1 := icc_eq (m := (Int32.toInt (g0 5 4))) (n := 2) rfl (by decide) c1
    have b2 : 0 ≤ (Int32.toInt (g0 5 3)) ∧ (Int32.toInt (g0 5 3)) ≤ 700 := hI 5 3 0 700 rfl
    have b3 : 0 ≤ (Int32.toInt (g0 5 5)) ∧ (Int32.toInt (g0 5 5)) ≤ 700 := hI 5 5 0 700 rfl
    generalize z4q : ((g0 5 3) - (g0 5 5)) = z4
    have e5 : (Int32.toInt z4) = (Int32.toInt (g0 5 3)) - (Int32.toInt (g0 5 5)) := by rw [← z4q]; exact ic_subc rfl rfl (by omega) (by omega)
    refine Ex.ite (fun c6 => ?_) (fun c6 => ?_)
    ·
      have c6 := icc_eq (m := (Int32.toInt z4)) (n := 5) rfl (by decide) c6
      have lp28 : ∀ (v2 : Int32) (g : Nat → Nat → Int32) (L : Nat → Nat → Int64), (0 ≤ (Int32.toInt v2) ∧ (Int32.toInt v2) ≤ 5) → ((Int32.toInt (g 5 5)) = (Int32.toInt (g0 5 5))) → zI XT g → pJ g → g 2 2 = g0 2 2 → g 0 13 = g0 0 13 → Ex (fX6_isWord_5_limit_l28 fu v2 g L) (fun (r : Int32) (g1 : Nat → Nat → Int32) (L1 : Nat → Nat → Int64) => zI XT g1 ∧ pJ g1 ∧ g1 2 2 = g0 2 2 ∧ g1 0 13 = g0 0 13 ∧ (0 ≤ (Int32.toInt r) ∧ (Int32.toInt r) ≤ 1)) := by
        intro v2 g L hb_v2 hn_0 hI hJ k0_0 k0_1
        unfold fX6_isWord_5_limit_l28
        refine Ex.loop (fun v => ((0 ≤ (Int32.toInt (v.1)) ∧ (Int32.toInt (v.1)) ≤ 5)) ∧ (((Int32.toInt ((v.2.1) 5 5)) = (Int32.toInt (g0 5 5)))) ∧ (zI XT (v.2.1)) ∧ (pJ (v.2.1)) ∧ ((v.2.1) 2 2 = g0 2 2) ∧ ((v.2.1) 0 13 = g0 0 13)) (fun v => 6 - (Int32.toInt (v.1))) (by omega) (by show 6 - (Int32.toInt v2) < (fu : Int); omega) ⟨hb_v2, hn_0, hI, hJ, k0_0, k0_1⟩ (fun k28 v hv ih28 => ?_)
        obtain ⟨v2, g, L⟩ := v
        obtain ⟨hb_v2, hn_0, hI, hJ, k0_0, k0_1⟩ := hv
        have hb_v2 : (0 ≤ (Int32.toInt v2) ∧ (Int32.toInt v2) ≤ 5) := hb_v2
        have hn_0 : ((Int32.toInt (g 5 5)) = (Int32.toInt (g0 5 5))) := hn_0
        have hI : zI XT g := hI
        have hJ : pJ g := hJ
        have k0_0 : g 2 2 = g0 2 2 := k0_0
        have k0_1 : g 0 13 = g0 0 13 := k0_1
        have ih28 : ∀ v' : Int32 × (Nat → Nat → Int32) × (Nat → Nat → Int64), (((0 ≤ (Int32.toInt (v'.1)) ∧ (Int32.toInt (v'.1)) ≤ 5)) ∧ (((Int32.toInt ((v'.2.1) 5 5)) = (Int32.toInt (g0 5 5)))) ∧ (zI XT (v'.2.1)) ∧ (pJ (v'.2.1)) ∧ ((v'.2.1) 2 2 = g0 2 2) ∧ ((v'.2.1) 0 13 = g0 0 13)) → 6 - (Int32.toInt (v'.1)) < 6 - (Int32.toInt v2) → 0 < 6 - (Int32.toInt v2) → Ex (k28 v') (fun (r : Int32) (g1 : Nat → Nat → Int32) (L1 : Nat → Nat → Int64) => zI XT g1 ∧ pJ g1 ∧ g1 2 2 = g0 2 2 ∧ g1 0 13 = g0 0 13 ∧ (0 ≤ (Int32.toInt r) ∧ (Int32.toInt r) ≤ 1)) := ih28
        show Ex (fX6_isWord_5_limit_s28 fu k28 v2 g L) (fun (r : Int32) (g1 : Nat → Nat → Int32) (L1 : Nat → Nat → Int64) => zI XT g1 ∧ pJ g1 ∧ g1 2 2 = g0 2 2 ∧ g1 0 13 = g0 0 13 ∧ (0 ≤ (Int32.toInt r) ∧ (Int32.toInt r) ≤ 1))
        unfold fX6_isWord_5_limit_s28
        refine Ex.ite (fun c7 => ?_) (fun c7 => ?_)
        ·
          have c7 := icc_le (m := 5) (n := (Int32.toInt v2)) (by decide) rfl c7
          refine Ex.ckb rfl ?_
          exact Ex.ret ⟨hI, hJ, k0_0, k0_1, (by decide)⟩
        ·
          have c7 := icc_nle (m := 5) (n := (Int32.toInt v2)) (by decide) rfl c7
          have b8 : 0 ≤ (Int32.toInt (g 5 5)) ∧ (Int32.toInt (g 5 5)) ≤ 700 := hI 5 5 0 700 rfl
          generalize z9q : ((g 5 5) + v2) = z9
          have e10 : (Int32.toInt z9) = (Int32.toInt (g 5 5)) + (Int32.toInt v2) := by rw [← z9q]; exact ic_addc rfl rfl (by omega) (by omega)
          refine Ex.ck (by omega) (by omega) ?_
          have b11 : 0 ≤ (Int32.toInt (g 14 (Int32.toNatClampNeg z9))) ∧ (Int32.toInt (g 14 (Int32.toNatClampNeg z9))) ≤ 255 := hI 14 _ 0 255 rfl
          refine Ex.ck (by omega) (by omega) ?_
          refine Ex.ite (fun c12 => ?_) (fun c12 => ?_)
          ·
            have c12 := icc_eq (m := (Int32.toInt (g 14 (Int32.toNatClampNeg z9)))) (n := (Int32.toInt (sch 6 (Int32.toNatClampNeg v2)))) rfl rfl c12
            generalize z13q : (v2 + 1) = z13
            have e14 : (Int32.toInt z13) = (Int32.toInt v2) + 1 := by rw [← z13q]; exact ic_addc rfl (by decide) (by omega) (by omega)
            exact ih28 (z13, g, L) ⟨(show (0 ≤ (Int32.toInt z13) ∧ (Int32.toInt z13) ≤ 5) from by omega), (show ((Int32.toInt (g 5 5)) = (Int32.toInt (g0 5 5))) from by omega), hI, hJ, k0_0, k0_1⟩ (by show 6 - (Int32.toInt z13) < _; omega) (by omega)
          ·
            have c12 := icc_neq (m := (Int32.toInt (g 14 (Int32.toNatClampNeg z9)))) (n := (Int32.toInt (sch 6 (Int32.toNatClampNeg v2)))) rfl rfl c12
            refine Ex.ckb rfl ?_
            exact Ex.ret ⟨hI, hJ, k0_0, k0_1, (by decide)⟩
      have hc_ : (0 : Int32).toInt = 0 := by decide
      exact lp28 0 g0 L0 (by decide) (by omega) hI hJ k0_0 k0_1
    ·
      have c6 := icc_neq (m := (Int32.toInt z4)) (n := 5) rfl (by decide) c6
      exact J24 g0 L0 hI hJ k0_0 k0_1
  ·
    have c1 := icc_neq (m := (Int32.toInt (g0 5 4))) (n := 2) rfl (by decide) c1
    exact J24 g0 L0 hI hJ k0_0 k0_1
set_option maxHeartbeats 4000000 in
set_option maxRecDepth 100000 in
theorem sX6_readOption_5_limit (fu : Nat) (hfu : 1180591620717411303424 ≤ fu) (p1 : Int32) (p2 : Int32) (g0 : Nat → Nat → Int32) (L0 : Nat → Nat → Int64) (hI : zI XT g0) (hJ : pJ g0) : Ex (fX6_readOption_5_limit fu p1 p2 g0 L0) (fun (r : Int32) (g1 : Nat → Nat → Int32) (L1 : Nat → Nat → Int64) => zI XT g1 ∧ pJ g1 ∧ g1 2 2 = g0 2 2 ∧ g1 0 13 = g0 0 13) := by
  have k0_0 : g0 2 2 = g0 2 2 := rfl
  have k0_1 : g0 0 13 = g0 0 13 := rfl
  unfold fX6_readOption_5_limit
  refine Ex.cb (sX6_isWord_5_limit fu hfu g0 L0 hI hJ) (fun x1 g2 L3 hq5 => ?_)
  obtain ⟨hI, hJ, kk0, kk1, rb_⟩ := hq5
  have b6 : 0 ≤ (Int32.toInt x1) ∧ (Int32.toInt x1) ≤ 1 := rb_
  have hI : zI XT g2 := hI
  have hJ : pJ g2 := hJ
  have k0_0 : g2 2 2 = g0 2 2 := kk0.trans k0_0
  have k0_1 : g2 0 13 = g0 0 13 := kk1.trans k0_1
  refine Ex.ite (fun c7 => ?_) (fun c7 => ?_)
  ·
    have c7 := icc_eq (m := (Int32.toInt x1)) (n := 0) rfl (by decide) c7
    exact Ex.ret ⟨hI, hJ, k0_0, k0_1⟩
  ·
    have c7 := icc_neq (m := (Int32.toInt x1)) (n := 0) rfl (by decide) c7
    refine Ex.cb (sX6_advance_5 fu hfu g2 L3 hI hJ) (fun x8 g9 L10 hq12 => ?_)
    obtain ⟨hI, hJ, kk0, kk1⟩ := hq12
    have hI : zI XT g9 := hI
    have hJ : pJ g9 := hJ
    have k0_0 : g9 2 2 = g0 2 2 := kk0.trans k0_0
    have k0_1 : g9 0 13 = g0 0 13 := kk1.trans k0_1
    refine Ex.cb (sX6_readNumber_5 fu hfu 0 p1 g9 L10 hI hJ) (fun x13 g14 L15 hq17 => ?_)
    obtain ⟨hI, hJ, kk0, kk1, rb_⟩ := hq17
    have b18 : 0 ≤ (Int32.toInt x13) ∧ (Int32.toInt x13) ≤ 9999 := rb_
    have hI : zI XT g14 := hI
    have hJ : pJ g14 := hJ
    have k0_0 : g14 2 2 = g0 2 2 := kk0.trans k0_0
    have k0_1 : g14 0 13 = g0 0 13 := kk1.trans k0_1
    exact Ex.ret ⟨hI, hJ, k0_0, k0_1⟩
set_option maxHeartbeats 4000000 in
set_option maxRecDepth 100000 in
theorem sX6_isWord_5_maybe (fu : Nat) (hfu : 1180591620717411303424 ≤ fu) (g0 : Nat → Nat → Int32) (L0 : Nat → Nat → Int64) (hI : zI XT g0) (hJ : pJ g0) : Ex (fX6_isWord_5_maybe fu g0 L0) (fun (r : Int32) (g1 : Nat → Nat → Int32) (L1 : Nat → Nat → Int64) => zI XT g1 ∧ pJ g1 ∧ g1 2 2 = g0 2 2 ∧ g1 0 13 = g0 0 13 ∧ (0 ≤ (Int32.toInt r) ∧ (Int32.toInt r) ≤ 1)) := by
  have k0_0 : g0 2 2 = g0 2 2 := rfl
  have k0_1 : g0 0 13 = g0 0 13 := rfl
  unfold fX6_isWord_5_maybe
  have J24 : ∀ (g : Nat → Nat → Int32) (L : Nat → Nat → Int64), zI XT g → pJ g → g 2 2 = g0 2 2 → g 0 13 = g0 0 13 → Ex (fX6_isWord_5_maybe_p24 fu g L) (fun (r : Int32) (g1 : Nat → Nat → Int32) (L1 : Nat → Nat → Int64) => zI XT g1 ∧ pJ g1 ∧ g1 2 2 = g0 2 2 ∧ g1 0 13 = g0 0 13 ∧ (0 ≤ (Int32.toInt r) ∧ (Int32.toInt r) ≤ 1)) := by
    intro g L hI hJ k0_0 k0_1
    unfold fX6_isWord_5_maybe_p24
    refine Ex.ckb rfl ?_
    exact Ex.ret ⟨hI, hJ, k0_0, k0_1, (by decide)⟩
  refine Ex.ite (fun c1 => ?_) (fun c1 => ?_)
  ·
    have c1 := icc_eq (m := (Int32.toInt (g0 5 4))) (n := 2) rfl (by decide) c1
    have b2 : 0 ≤ (Int32.toInt (g0 5 3)) ∧ (Int32.toInt (g0 5 3)) ≤ 700 := hI 5 3 0 700 rfl
    have b3 : 0 ≤ (Int32.toInt (g0 5 5)) ∧ (Int32.toInt (g0 5 5)) ≤ 700 := hI 5 5 0 700 rfl
    generalize z4q : ((g0 5 3) - (g0 5 5)) = z4
    have e5 : (Int32.toInt z4) = (Int32.toInt (g0 5 3)) - (Int32.toInt (g0 5 5)) := by rw [← z4q]; exact ic_subc rfl rfl (by omega) (by omega)
    refine Ex.ite (fun c6 => ?_) (fun c6 => ?_)
    ·
      have c6 := icc_eq (m := (Int32.toInt z4)) (n := 5) rfl (by decide) c6
      have lp28 : ∀ (v2 : Int32) (g : Nat → Nat → Int32) (L : Nat → Nat → Int64), (0 ≤ (Int32.toInt v2) ∧ (Int32.toInt v2) ≤ 5) → ((Int32.toInt (g 5 5)) = (Int32.toInt (g0 5 5))) → zI XT g → pJ g → g 2 2 = g0 2 2 → g 0 13 = g0 0 13 → Ex (fX6_isWord_5_maybe_l28 fu v2 g L) (fun (r : Int32) (g1 : Nat → Nat → Int32) (L1 : Nat → Nat → Int64) => zI XT g1 ∧ pJ g1 ∧ g1 2 2 = g0 2 2 ∧ g1 0 13 = g0 0 13 ∧ (0 ≤ (Int32.toInt r) ∧ (Int32.toInt r) ≤ 1)) := by
        intro v2 g L hb_v2 hn_0 hI hJ k0_0 k0_1
        unfold fX6_isWord_5_maybe_l28
        refine Ex.loop (fun v => ((0 ≤ (Int32.toInt (v.1)) ∧ (Int32.toInt (v.1)) ≤ 5)) ∧ (((Int32.toInt ((v.2.1) 5 5)) = (Int32.toInt (g0 5 5)))) ∧ (zI XT (v.2.1)) ∧ (pJ (v.2.1)) ∧ ((v.2.1) 2 2 = g0 2 2) ∧ ((v.2.1) 0 13 = g0 0 13)) (fun v => 6 - (Int32.toInt (v.1))) (by omega) (by show 6 - (Int32.toInt v2) < (fu : Int); omega) ⟨hb_v2, hn_0, hI, hJ, k0_0, k0_1⟩ (fun k28 v hv ih28 => ?_)
        obtain ⟨v2, g, L⟩ := v
        obtain ⟨hb_v2, hn_0, hI, hJ, k0_0, k0_1⟩ := hv
        have hb_v2 : (0 ≤ (Int32.toInt v2) ∧ (Int32.toInt v2) ≤ 5) := hb_v2
        have hn_0 : ((Int32.toInt (g 5 5)) = (Int32.toInt (g0 5 5))) := hn_0
        have hI : zI XT g := hI
        have hJ : pJ g := hJ
        have k0_0 : g 2 2 = g0 2 2 := k0_0
        have k0_1 : g 0 13 = g0 0 13 := k0_1
        have ih28 : ∀ v' : Int32 × (Nat → Nat → Int32) × (Nat → Nat → Int64), (((0 ≤ (Int32.toInt (v'.1)) ∧ (Int32.toInt (v'.1)) ≤ 5)) ∧ (((Int32.toInt ((v'.2.1) 5 5)) = (Int32.toInt (g0 5 5)))) ∧ (zI XT (v'.2.1)) ∧ (pJ (v'.2.1)) ∧ ((v'.2.1) 2 2 = g0 2 2) ∧ ((v'.2.1) 0 13 = g0 0 13)) → 6 - (Int32.toInt (v'.1)) < 6 - (Int32.toInt v2) → 0 < 6 - (Int32.toInt v2) → Ex (k28 v') (fun (r : Int32) (g1 : Nat → Nat → Int32) (L1 : Nat → Nat → Int64) => zI XT g1 ∧ pJ g1 ∧ g1 2 2 = g0 2 2 ∧ g1 0 13 = g0 0 13 ∧ (0 ≤ (Int32.toInt r) ∧ (Int32.toInt r) ≤ 1)) := ih28
        show Ex (fX6_isWord_5_maybe_s28 fu k28 v2 g L) (fun (r : Int32) (g1 : Nat → Nat → Int32) (L1 : Nat → Nat → Int64) => zI XT g1 ∧ pJ g1 ∧ g1 2 2 = g0 2 2 ∧ g1 0 13 = g0 0 13 ∧ (0 ≤ (Int32.toInt r) ∧ (Int32.toInt r) ≤ 1))
        unfold fX6_isWord_5_maybe_s28
        refine Ex.ite (fun c7 => ?_) (fun c7 => ?_)
        ·
          have c7 := icc_le (m := 5) (n := (Int32.toInt v2)) (by decide) rfl c7
          refine Ex.ckb rfl ?_
          exact Ex.ret ⟨hI, hJ, k0_0, k0_1, (by decide)⟩
        ·
          have c7 := icc_nle (m := 5) (n := (Int32.toInt v2)) (by decide) rfl c7
          have b8 : 0 ≤ (Int32.toInt (g 5 5)) ∧ (Int32.toInt (g 5 5)) ≤ 700 := hI 5 5 0 700 rfl
          generalize z9q : ((g 5 5) + v2) = z9
          have e10 : (Int32.toInt z9) = (Int32.toInt (g 5 5)) + (Int32.toInt v2) := by rw [← z9q]; exact ic_addc rfl rfl (by omega) (by omega)
          refine Ex.ck (by omega) (by omega) ?_
          have b11 : 0 ≤ (Int32.toInt (g 14 (Int32.toNatClampNeg z9))) ∧ (Int32.toInt (g 14 (Int32.toNatClampNeg z9))) ≤ 255 := hI 14 _ 0 255 rfl
          refine Ex.ck (by omega) (by omega) ?_
          refine Ex.ite (fun c12 => ?_) (fun c12 => ?_)
          ·
            have c12 := icc_eq (m := (Int32.toInt (g 14 (Int32.toNatClampNeg z9)))) (n := (Int32.toInt (sch 7 (Int32.toNatClampNeg v2)))) rfl rfl c12
            generalize z13q : (v2 + 1) = z13
            have e14 : (Int32.toInt z13) = (Int32.toInt v2) + 1 := by rw [← z13q]; exact ic_addc rfl (by decide) (by omega) (by omega)
            exact ih28 (z13, g, L) ⟨(show (0 ≤ (Int32.toInt z13) ∧ (Int32.toInt z13) ≤ 5) from by omega), (show ((Int32.toInt (g 5 5)) = (Int32.toInt (g0 5 5))) from by omega), hI, hJ, k0_0, k0_1⟩ (by show 6 - (Int32.toInt z13) < _; omega) (by omega)
          ·
            have c12 := icc_neq (m := (Int32.toInt (g 14 (Int32.toNatClampNeg z9)))) (n := (Int32.toInt (sch 7 (Int32.toNatClampNeg v2)))) rfl rfl c12
            refine Ex.ckb rfl ?_
            exact Ex.ret ⟨hI, hJ, k0_0, k0_1, (by decide)⟩
      have hc_ : (0 : Int32).toInt = 0 := by decide
      exact lp28 0 g0 L0 (by decide) (by omega) hI hJ k0_0 k0_1
    ·
      have c6 := icc_neq (m := (Int32.toInt z4)) (n := 5) rfl (by decide) c6
      exact J24 g0 L0 hI hJ k0_0 k0_1
  ·
    have c1 := icc_neq (m := (Int32.toInt (g0 5 4))) (n := 2) rfl (by decide) c1
    exact J24 g0 L0 hI hJ k0_0 k0_1
set_option maxHeartbeats 4000000 in
set_option maxRecDepth 100000 in
theorem sX6_readOption_5_maybe (fu : Nat) (hfu : 1180591620717411303424 ≤ fu) (p1 : Int32) (p2 : Int32) (g0 : Nat → Nat → Int32) (L0 : Nat → Nat → Int64) (hI : zI XT g0) (hJ : pJ g0) : Ex (fX6_readOption_5_maybe fu p1 p2 g0 L0) (fun (r : Int32) (g1 : Nat → Nat → Int32) (L1 : Nat → Nat → Int64) => zI XT g1 ∧ pJ g1 ∧ g1 2 2 = g0 2 2 ∧ g1 0 13 = g0 0 13) := by
  have k0_0 : g0 2 2 = g0 2 2 := rfl
  have k0_1 : g0 0 13 = g0 0 13 := rfl
  unfold fX6_readOption_5_maybe
  refine Ex.cb (sX6_isWord_5_maybe fu hfu g0 L0 hI hJ) (fun x1 g2 L3 hq5 => ?_)
  obtain ⟨hI, hJ, kk0, kk1, rb_⟩ := hq5
  have b6 : 0 ≤ (Int32.toInt x1) ∧ (Int32.toInt x1) ≤ 1 := rb_
  have hI : zI XT g2 := hI
  have hJ : pJ g2 := hJ
  have k0_0 : g2 2 2 = g0 2 2 := kk0.trans k0_0
  have k0_1 : g2 0 13 = g0 0 13 := kk1.trans k0_1
  refine Ex.ite (fun c7 => ?_) (fun c7 => ?_)
  ·
    have c7 := icc_eq (m := (Int32.toInt x1)) (n := 0) rfl (by decide) c7
    exact Ex.ret ⟨hI, hJ, k0_0, k0_1⟩
  ·
    have c7 := icc_neq (m := (Int32.toInt x1)) (n := 0) rfl (by decide) c7
    refine Ex.cb (sX6_advance_5 fu hfu g2 L3 hI hJ) (fun x8 g9 L10 hq12 => ?_)
    obtain ⟨hI, hJ, kk0, kk1⟩ := hq12
    have hI : zI XT g9 := hI
    have hJ : pJ g9 := hJ
    have k0_0 : g9 2 2 = g0 2 2 := kk0.trans k0_0
    have k0_1 : g9 0 13 = g0 0 13 := kk1.trans k0_1
    refine Ex.cb (sX6_readNumber_5 fu hfu 0 p1 g9 L10 hI hJ) (fun x13 g14 L15 hq17 => ?_)
    obtain ⟨hI, hJ, kk0, kk1, rb_⟩ := hq17
    have b18 : 0 ≤ (Int32.toInt x13) ∧ (Int32.toInt x13) ≤ 9999 := rb_
    have hI : zI XT g14 := hI
    have hJ : pJ g14 := hJ
    have k0_0 : g14 2 2 = g0 2 2 := kk0.trans k0_0
    have k0_1 : g14 0 13 = g0 0 13 := kk1.trans k0_1
    exact Ex.ret ⟨hI, hJ, k0_0, k0_1⟩
set_option maxHeartbeats 4000000 in
set_option maxRecDepth 100000 in
theorem sX6_isWord_5_gap (fu : Nat) (hfu : 1180591620717411303424 ≤ fu) (g0 : Nat → Nat → Int32) (L0 : Nat → Nat → Int64) (hI : zI XT g0) (hJ : pJ g0) : Ex (fX6_isWord_5_gap fu g0 L0) (fun (r : Int32) (g1 : Nat → Nat → Int32) (L1 : Nat → Nat → Int64) => zI XT g1 ∧ pJ g1 ∧ g1 2 2 = g0 2 2 ∧ g1 0 13 = g0 0 13 ∧ (0 ≤ (Int32.toInt r) ∧ (Int32.toInt r) ≤ 1)) := by
  have k0_0 : g0 2 2 = g0 2 2 := rfl
  have k0_1 : g0 0 13 = g0 0 13 := rfl
  unfold fX6_isWord_5_gap
  have J24 : ∀ (g : Nat → Nat → Int32) (L : Nat → Nat → Int64), zI XT g → pJ g → g 2 2 = g0 2 2 → g 0 13 = g0 0 13 → Ex (fX6_isWord_5_gap_p24 fu g L) (fun (r : Int32) (g1 : Nat → Nat → Int32) (L1 : Nat → Nat → Int64) => zI XT g1 ∧ pJ g1 ∧ g1 2 2 = g0 2 2 ∧ g1 0 13 = g0 0 13 ∧ (0 ≤ (Int32.toInt r) ∧ (Int32.toInt r) ≤ 1)) := by
    intro g L hI hJ k0_0 k0_1
    unfold fX6_isWord_5_gap_p24
    refine Ex.ckb rfl ?_
    exact Ex.ret ⟨hI, hJ, k0_0, k0_1, (by decide)⟩
  refine Ex.ite (fun c1 => ?_) (fun c1 => ?_)
  ·
    have c1 := icc_eq (m := (Int32.toInt (g0 5 4))) (n := 2) rfl (by decide) c1
    have b2 : 0 ≤ (Int32.toInt (g0 5 3)) ∧ (Int32.toInt (g0 5 3)) ≤ 700 := hI 5 3 0 700 rfl
    have b3 : 0 ≤ (Int32.toInt (g0 5 5)) ∧ (Int32.toInt (g0 5 5)) ≤ 700 := hI 5 5 0 700 rfl
    generalize z4q : ((g0 5 3) - (g0 5 5)) = z4
    have e5 : (Int32.toInt z4) = (Int32.toInt (g0 5 3)) - (Int32.toInt (g0 5 5)) := by rw [← z4q]; exact ic_subc rfl rfl (by omega) (by omega)
    refine Ex.ite (fun c6 => ?_) (fun c6 => ?_)
    ·
      have c6 := icc_eq (m := (Int32.toInt z4)) (n := 3) rfl (by decide) c6
      have lp28 : ∀ (v2 : Int32) (g : Nat → Nat → Int32) (L : Nat → Nat → Int64), (0 ≤ (Int32.toInt v2) ∧ (Int32.toInt v2) ≤ 3) → ((Int32.toInt (g 5 5)) = (Int32.toInt (g0 5 5))) → zI XT g → pJ g → g 2 2 = g0 2 2 → g 0 13 = g0 0 13 → Ex (fX6_isWord_5_gap_l28 fu v2 g L) (fun (r : Int32) (g1 : Nat → Nat → Int32) (L1 : Nat → Nat → Int64) => zI XT g1 ∧ pJ g1 ∧ g1 2 2 = g0 2 2 ∧ g1 0 13 = g0 0 13 ∧ (0 ≤ (Int32.toInt r) ∧ (Int32.toInt r) ≤ 1)) := by
        intro v2 g L hb_v2 hn_0 hI hJ k0_0 k0_1
        unfold fX6_isWord_5_gap_l28
        refine Ex.loop (fun v => ((0 ≤ (Int32.toInt (v.1)) ∧ (Int32.toInt (v.1)) ≤ 3)) ∧ (((Int32.toInt ((v.2.1) 5 5)) = (Int32.toInt (g0 5 5)))) ∧ (zI XT (v.2.1)) ∧ (pJ (v.2.1)) ∧ ((v.2.1) 2 2 = g0 2 2) ∧ ((v.2.1) 0 13 = g0 0 13)) (fun v => 4 - (Int32.toInt (v.1))) (by omega) (by show 4 - (Int32.toInt v2) < (fu : Int); omega) ⟨hb_v2, hn_0, hI, hJ, k0_0, k0_1⟩ (fun k28 v hv ih28 => ?_)
        obtain ⟨v2, g, L⟩ := v
        obtain ⟨hb_v2, hn_0, hI, hJ, k0_0, k0_1⟩ := hv
        have hb_v2 : (0 ≤ (Int32.toInt v2) ∧ (Int32.toInt v2) ≤ 3) := hb_v2
        have hn_0 : ((Int32.toInt (g 5 5)) = (Int32.toInt (g0 5 5))) := hn_0
        have hI : zI XT g := hI
        have hJ : pJ g := hJ
        have k0_0 : g 2 2 = g0 2 2 := k0_0
        have k0_1 : g 0 13 = g0 0 13 := k0_1
        have ih28 : ∀ v' : Int32 × (Nat → Nat → Int32) × (Nat → Nat → Int64), (((0 ≤ (Int32.toInt (v'.1)) ∧ (Int32.toInt (v'.1)) ≤ 3)) ∧ (((Int32.toInt ((v'.2.1) 5 5)) = (Int32.toInt (g0 5 5)))) ∧ (zI XT (v'.2.1)) ∧ (pJ (v'.2.1)) ∧ ((v'.2.1) 2 2 = g0 2 2) ∧ ((v'.2.1) 0 13 = g0 0 13)) → 4 - (Int32.toInt (v'.1)) < 4 - (Int32.toInt v2) → 0 < 4 - (Int32.toInt v2) → Ex (k28 v') (fun (r : Int32) (g1 : Nat → Nat → Int32) (L1 : Nat → Nat → Int64) => zI XT g1 ∧ pJ g1 ∧ g1 2 2 = g0 2 2 ∧ g1 0 13 = g0 0 13 ∧ (0 ≤ (Int32.toInt r) ∧ (Int32.toInt r) ≤ 1)) := ih28
        show Ex (fX6_isWord_5_gap_s28 fu k28 v2 g L) (fun (r : Int32) (g1 : Nat → Nat → Int32) (L1 : Nat → Nat → Int64) => zI XT g1 ∧ pJ g1 ∧ g1 2 2 = g0 2 2 ∧ g1 0 13 = g0 0 13 ∧ (0 ≤ (Int32.toInt r) ∧ (Int32.toInt r) ≤ 1))
        unfold fX6_isWord_5_gap_s28
        refine Ex.ite (fun c7 => ?_) (fun c7 => ?_)
        ·
          have c7 := icc_le (m := 3) (n := (Int32.toInt v2)) (by decide) rfl c7
          refine Ex.ckb rfl ?_
          exact Ex.ret ⟨hI, hJ, k0_0, k0_1, (by decide)⟩
        ·
          have c7 := icc_nle (m := 3) (n := (Int32.toInt v2)) (by decide) rfl c7
          have b8 : 0 ≤ (Int32.toInt (g 5 5)) ∧ (Int32.toInt (g 5 5)) ≤ 700 := hI 5 5 0 700 rfl
          generalize z9q : ((g 5 5) + v2) = z9
          have e10 : (Int32.toInt z9) = (Int32.toInt (g 5 5)) + (Int32.toInt v2) := by rw [← z9q]; exact ic_addc rfl rfl (by omega) (by omega)
          refine Ex.ck (by omega) (by omega) ?_
          have b11 : 0 ≤ (Int32.toInt (g 14 (Int32.toNatClampNeg z9))) ∧ (Int32.toInt (g 14 (Int32.toNatClampNeg z9))) ≤ 255 := hI 14 _ 0 255 rfl
          refine Ex.ck (by omega) (by omega) ?_
          refine Ex.ite (fun c12 => ?_) (fun c12 => ?_)
          ·
            have c12 := icc_eq (m := (Int32.toInt (g 14 (Int32.toNatClampNeg z9)))) (n := (Int32.toInt (sch 8 (Int32.toNatClampNeg v2)))) rfl rfl c12
            generalize z13q : (v2 + 1) = z13
            have e14 : (Int32.toInt z13) = (Int32.toInt v2) + 1 := by rw [← z13q]; exact ic_addc rfl (by decide) (by omega) (by omega)
            exact ih28 (z13, g, L) ⟨(show (0 ≤ (Int32.toInt z13) ∧ (Int32.toInt z13) ≤ 3) from by omega), (show ((Int32.toInt (g 5 5)) = (Int32.toInt (g0 5 5))) from by omega), hI, hJ, k0_0, k0_1⟩ (by show 4 - (Int32.toInt z13) < _; omega) (by omega)
          ·
            have c12 := icc_neq (m := (Int32.toInt (g 14 (Int32.toNatClampNeg z9)))) (n := (Int32.toInt (sch 8 (Int32.toNatClampNeg v2)))) rfl rfl c12
            refine Ex.ckb rfl ?_
            exact Ex.ret ⟨hI, hJ, k0_0, k0_1, (by decide)⟩
      have hc_ : (0 : Int32).toInt = 0 := by decide
      exact lp28 0 g0 L0 (by decide) (by omega) hI hJ k0_0 k0_1
    ·
      have c6 := icc_neq (m := (Int32.toInt z4)) (n := 3) rfl (by decide) c6
      exact J24 g0 L0 hI hJ k0_0 k0_1
  ·
    have c1 := icc_neq (m := (Int32.toInt (g0 5 4))) (n := 2) rfl (by decide) c1
    exact J24 g0 L0 hI hJ k0_0 k0_1
set_option maxHeartbeats 4000000 in
set_option maxRecDepth 100000 in
theorem sX6_readOption_5_gap (fu : Nat) (hfu : 1180591620717411303424 ≤ fu) (p1 : Int32) (p2 : Int32) (g0 : Nat → Nat → Int32) (L0 : Nat → Nat → Int64) (hI : zI XT g0) (hJ : pJ g0) : Ex (fX6_readOption_5_gap fu p1 p2 g0 L0) (fun (r : Int32) (g1 : Nat → Nat → Int32) (L1 : Nat → Nat → Int64) => zI XT g1 ∧ pJ g1 ∧ g1 2 2 = g0 2 2 ∧ g1 0 13 = g0 0 13) := by
  have k0_0 : g0 2 2 = g0 2 2 := rfl
  have k0_1 : g0 0 13 = g0 0 13 := rfl
  unfold fX6_readOption_5_gap
  refine Ex.cb (sX6_isWord_5_gap fu hfu g0 L0 hI hJ) (fun x1 g2 L3 hq5 => ?_)
  obtain ⟨hI, hJ, kk0, kk1, rb_⟩ := hq5
  have b6 : 0 ≤ (Int32.toInt x1) ∧ (Int32.toInt x1) ≤ 1 := rb_
  have hI : zI XT g2 := hI
  have hJ : pJ g2 := hJ
  have k0_0 : g2 2 2 = g0 2 2 := kk0.trans k0_0
  have k0_1 : g2 0 13 = g0 0 13 := kk1.trans k0_1
  refine Ex.ite (fun c7 => ?_) (fun c7 => ?_)
  ·
    have c7 := icc_eq (m := (Int32.toInt x1)) (n := 0) rfl (by decide) c7
    exact Ex.ret ⟨hI, hJ, k0_0, k0_1⟩
  ·
    have c7 := icc_neq (m := (Int32.toInt x1)) (n := 0) rfl (by decide) c7
    refine Ex.cb (sX6_advance_5 fu hfu g2 L3 hI hJ) (fun x8 g9 L10 hq12 => ?_)
    obtain ⟨hI, hJ, kk0, kk1⟩ := hq12
    have hI : zI XT g9 := hI
    have hJ : pJ g9 := hJ
    have k0_0 : g9 2 2 = g0 2 2 := kk0.trans k0_0
    have k0_1 : g9 0 13 = g0 0 13 := kk1.trans k0_1
    refine Ex.cb (sX6_readNumber_5 fu hfu 0 p1 g9 L10 hI hJ) (fun x13 g14 L15 hq17 => ?_)
    obtain ⟨hI, hJ, kk0, kk1, rb_⟩ := hq17
    have b18 : 0 ≤ (Int32.toInt x13) ∧ (Int32.toInt x13) ≤ 9999 := rb_
    have hI : zI XT g14 := hI
    have hJ : pJ g14 := hJ
    have k0_0 : g14 2 2 = g0 2 2 := kk0.trans k0_0
    have k0_1 : g14 0 13 = g0 0 13 := kk1.trans k0_1
    exact Ex.ret ⟨hI, hJ, k0_0, k0_1⟩
set_option maxHeartbeats 4000000 in
set_option maxRecDepth 100000 in
theorem sX6_readLesson_5 (fu : Nat) (hfu : 1180591620717411303424 ≤ fu) (g0 : Nat → Nat → Int32) (L0 : Nat → Nat → Int64) (hI : zI XT g0) (hJ : pJ g0) : Ex (fX6_readLesson_5 fu g0 L0) (fun (r : Unit) (g1 : Nat → Nat → Int32) (L1 : Nat → Nat → Int64) => zI XT g1 ∧ pJ g1 ∧ g1 0 13 = g0 0 13) := by
  have k0_0 : g0 0 13 = g0 0 13 := rfl
  unfold fX6_readLesson_5
  have b1 : 0 ≤ (Int32.toInt (g0 2 2)) ∧ (Int32.toInt (g0 2 2)) ≤ 12 := hI 2 2 0 12 rfl
  refine Ex.ite (fun c2 => ?_) (fun c2 => ?_)
  ·
    have c2 := icc_lt (m := (Int32.toInt (g0 2 2))) (n := 12) rfl (by decide) c2
    have b3 : 0 ≤ (Int32.toInt (g0 2 2)) ∧ (Int32.toInt (g0 2 2)) ≤ 12 := hI 2 2 0 12 rfl
    refine Ex.ck (by omega) (by omega) ?_
    refine Ex.ltn (fun q4 q4e => ?_)
    have q4b : 69 ≤ q4 ∧ q4 < 81 := by have := Nat.mod_lt (Int32.toNatClampNeg (g0 2 2)) (show 12 > 0 by decide); omega
    refine Ex.cb (sX5_clear_les fu hfu q4 g0 L0 hI hJ (by omega) (by omega)) (fun x5 g6 L7 hq9 => ?_)
    obtain ⟨hI, hJ, kk0, kk1⟩ := hq9
    have hI : zI XT g6 := hI
    have hJ : pJ g6 := hJ
    have w10 : (Int32.toInt (g6 2 2)) = (Int32.toInt (g0 2 2)) := congrArg Int32.toInt kk0
    have k0_0 : g6 0 13 = g0 0 13 := kk1.trans k0_0
    refine Ex.cb (sX6_advance_5 fu hfu g6 L7 hI hJ) (fun x11 g12 L13 hq15 => ?_)
    obtain ⟨hI, hJ, kk0, kk1⟩ := hq15
    have hI : zI XT g12 := hI
    have hJ : pJ g12 := hJ
    have w16 : (Int32.toInt (g12 2 2)) = (Int32.toInt (g6 2 2)) := congrArg Int32.toInt kk0
    have k0_0 : g12 0 13 = g0 0 13 := kk1.trans k0_0
    refine Ex.cb (sX6_readNumber_5 fu hfu 0 999 g12 L13 hI hJ) (fun x17 g18 L19 hq21 => ?_)
    obtain ⟨hI, hJ, kk0, kk1, rb_⟩ := hq21
    have b22 : 0 ≤ (Int32.toInt x17) ∧ (Int32.toInt x17) ≤ 9999 := rb_
    have hI : zI XT g18 := hI
    have hJ : pJ g18 := hJ
    have w23 : (Int32.toInt (g18 2 2)) = (Int32.toInt (g12 2 2)) := congrArg Int32.toInt kk0
    have k0_0 : g18 0 13 = g0 0 13 := kk1.trans k0_0
    refine Ex.sti (hI.updN (xt_lesN (by omega) (by omega) (by decide))) (fun g24 g24e hI => ?_)
    have w25 : (Int32.toInt (g24 2 2)) = (Int32.toInt (g18 2 2)) := by rw [g24e, upd2_nk (by omega)]
    have k0_0 : g24 0 13 = g0 0 13 := by rw [g24e]; exact (upd2_nk (by omega)).trans k0_0
    have hJ : pJ g24 := by rw [g24e]; exact pJ.updn hJ (by omega)
    generalize z26q : ((g24 q4 3) + 1) = z26
    refine Ex.cb (sX6_readNumber_5 fu hfu z26 999 g24 L19 hI hJ) (fun x27 g28 L29 hq31 => ?_)
    obtain ⟨hI, hJ, kk0, kk1, rb_⟩ := hq31
    have b32 : 0 ≤ (Int32.toInt x27) ∧ (Int32.toInt x27) ≤ 9999 := rb_
    have hI : zI XT g28 := hI
    have hJ : pJ g28 := hJ
    have w33 : (Int32.toInt (g28 2 2)) = (Int32.toInt (g24 2 2)) := congrArg Int32.toInt kk0
    have k0_0 : g28 0 13 = g0 0 13 := kk1.trans k0_0
    refine Ex.sti (hI.updN (xt_lesN (by omega) (by omega) (by decide))) (fun g34 g34e hI => ?_)
    have w35 : (Int32.toInt (g34 2 2)) = (Int32.toInt (g28 2 2)) := by rw [g34e, upd2_nk (by omega)]
    have k0_0 : g34 0 13 = g0 0 13 := by rw [g34e]; exact (upd2_nk (by omega)).trans k0_0
    have hJ : pJ g34 := by rw [g34e]; exact pJ.updn hJ (by omega)
    refine Ex.cb (sX6_readNumber_5 fu hfu 1 200 g34 L29 hI hJ) (fun x36 g37 L38 hq40 => ?_)
    obtain ⟨hI, hJ, kk0, kk1, rb_⟩ := hq40
    have b41 : 0 ≤ (Int32.toInt x36) ∧ (Int32.toInt x36) ≤ 9999 := rb_
    have hI : zI XT g37 := hI
    have hJ : pJ g37 := hJ
    have w42 : (Int32.toInt (g37 2 2)) = (Int32.toInt (g34 2 2)) := congrArg Int32.toInt kk0
    have k0_0 : g37 0 13 = g0 0 13 := kk1.trans k0_0
    refine Ex.sti (hI.updN (xt_lesN (by omega) (by omega) (by decide))) (fun g43 g43e hI => ?_)
    have w44 : (Int32.toInt (g43 2 2)) = (Int32.toInt (g37 2 2)) := by rw [g43e, upd2_nk (by omega)]
    have k0_0 : g43 0 13 = g0 0 13 := by rw [g43e]; exact (upd2_nk (by omega)).trans k0_0
    have hJ : pJ g43 := by rw [g43e]; exact pJ.updn hJ (by omega)
    refine Ex.cb (sX6_readNumber_5 fu hfu 0 60 g43 L38 hI hJ) (fun x45 g46 L47 hq49 => ?_)
    obtain ⟨hI, hJ, kk0, kk1, rb_⟩ := hq49
    have b50 : 0 ≤ (Int32.toInt x45) ∧ (Int32.toInt x45) ≤ 9999 := rb_
    have hI : zI XT g46 := hI
    have hJ : pJ g46 := hJ
    have w51 : (Int32.toInt (g46 2 2)) = (Int32.toInt (g43 2 2)) := congrArg Int32.toInt kk0
    have k0_0 : g46 0 13 = g0 0 13 := kk1.trans k0_0
    refine Ex.sti (hI.updN (xt_lesN (by omega) (by omega) (by decide))) (fun g52 g52e hI => ?_)
    have w53 : (Int32.toInt (g52 2 2)) = (Int32.toInt (g46 2 2)) := by rw [g52e, upd2_nk (by omega)]
    have k0_0 : g52 0 13 = g0 0 13 := by rw [g52e]; exact (upd2_nk (by omega)).trans k0_0
    have hJ : pJ g52 := by rw [g52e]; exact pJ.updn hJ (by omega)
    refine Ex.cb (sX6_readNumber_5 fu hfu 0 9 g52 L47 hI hJ) (fun x54 g55 L56 hq58 => ?_)
    obtain ⟨hI, hJ, kk0, kk1, rb_⟩ := hq58
    have b59 : 0 ≤ (Int32.toInt x54) ∧ (Int32.toInt x54) ≤ 9999 := rb_
    have hI : zI XT g55 := hI
    have hJ : pJ g55 := hJ
    have w60 : (Int32.toInt (g55 2 2)) = (Int32.toInt (g52 2 2)) := congrArg Int32.toInt kk0
    have k0_0 : g55 0 13 = g0 0 13 := kk1.trans k0_0
    refine Ex.sti (hI.updN (xt_lesN (by omega) (by omega) (by decide))) (fun g61 g61e hI => ?_)
    have w62 : (Int32.toInt (g61 2 2)) = (Int32.toInt (g55 2 2)) := by rw [g61e, upd2_nk (by omega)]
    have k0_0 : g61 0 13 = g0 0 13 := by rw [g61e]; exact (upd2_nk (by omega)).trans k0_0
    have hJ : pJ g61 := by rw [g61e]; exact pJ.updn hJ (by omega)
    refine Ex.cb (sX6_readNumber_5 fu hfu 1 99 g61 L56 hI hJ) (fun x63 g64 L65 hq67 => ?_)
    obtain ⟨hI, hJ, kk0, kk1, rb_⟩ := hq67
    have b68 : 0 ≤ (Int32.toInt x63) ∧ (Int32.toInt x63) ≤ 9999 := rb_
    have hI : zI XT g64 := hI
    have hJ : pJ g64 := hJ
    have w69 : (Int32.toInt (g64 2 2)) = (Int32.toInt (g61 2 2)) := congrArg Int32.toInt kk0
    have k0_0 : g64 0 13 = g0 0 13 := kk1.trans k0_0
    refine Ex.sti (hI.updN (xt_lesN (by omega) (by omega) (by decide))) (fun g70 g70e hI => ?_)
    have w71 : (Int32.toInt (g70 2 2)) = (Int32.toInt (g64 2 2)) := by rw [g70e, upd2_nk (by omega)]
    have k0_0 : g70 0 13 = g0 0 13 := by rw [g70e]; exact (upd2_nk (by omega)).trans k0_0
    have hJ : pJ g70 := by rw [g70e]; exact pJ.updn hJ (by omega)
    refine Ex.cb (sX6_isWord_5_all fu hfu g70 L65 hI hJ) (fun x72 g73 L74 hq76 => ?_)
    obtain ⟨hI, hJ, kk0, kk1, rb_⟩ := hq76
    have b77 : 0 ≤ (Int32.toInt x72) ∧ (Int32.toInt x72) ≤ 1 := rb_
    have hI : zI XT g73 := hI
    have hJ : pJ g73 := hJ
    have w78 : (Int32.toInt (g73 2 2)) = (Int32.toInt (g70 2 2)) := congrArg Int32.toInt kk0
    have k0_0 : g73 0 13 = g0 0 13 := kk1.trans k0_0
    have J176 : ∀ (q1_ : Nat) (g : Nat → Nat → Int32) (L : Nat → Nat → Int64), 57 ≤ q1_ → q1_ < 81 → (0 ≤ (Int32.toInt (g 2 2)) ∧ (Int32.toInt (g 2 2)) ≤ 11) → zI XT g → pJ g → g 0 13 = g0 0 13 → Ex (fX6_readLesson_5_p176 fu q1_ g L) (fun (r : Unit) (g1 : Nat → Nat → Int32) (L1 : Nat → Nat → Int64) => zI XT g1 ∧ pJ g1 ∧ g1 0 13 = g0 0 13) := by
      intro q1_ g L q1_l q1_h hw_2_2 hI hJ k0_0
      unfold fX6_readLesson_5_p176
      refine Ex.cb (sX6_readOption_5_limit fu hfu 99 99 g L hI hJ) (fun x79 g80 L81 hq83 => ?_)
      obtain ⟨hI, hJ, kk0, kk1⟩ := hq83
      have hI : zI XT g80 := hI
      have hJ : pJ g80 := hJ
      have w84 : (Int32.toInt (g80 2 2)) = (Int32.toInt (g 2 2)) := congrArg Int32.toInt kk0
      have k0_0 : g80 0 13 = g0 0 13 := kk1.trans k0_0
      refine Ex.sti (hI.updN (xt_lesN (by omega) (by omega) (by decide))) (fun g85 g85e hI => ?_)
      have w86 : (Int32.toInt (g85 2 2)) = (Int32.toInt (g80 2 2)) := by rw [g85e, upd2_nk (by omega)]
      have k0_0 : g85 0 13 = g0 0 13 := by rw [g85e]; exact (upd2_nk (by omega)).trans k0_0
      have hJ : pJ g85 := by rw [g85e]; exact pJ.updn hJ (by omega)
      refine Ex.cb (sX6_readOption_5_maybe fu hfu 10 10 g85 L81 hI hJ) (fun x87 g88 L89 hq91 => ?_)
      obtain ⟨hI, hJ, kk0, kk1⟩ := hq91
      have hI : zI XT g88 := hI
      have hJ : pJ g88 := hJ
      have w92 : (Int32.toInt (g88 2 2)) = (Int32.toInt (g85 2 2)) := congrArg Int32.toInt kk0
      have k0_0 : g88 0 13 = g0 0 13 := kk1.trans k0_0
      refine Ex.sti (hI.updN (xt_lesN (by omega) (by omega) (by decide))) (fun g93 g93e hI => ?_)
      have w94 : (Int32.toInt (g93 2 2)) = (Int32.toInt (g88 2 2)) := by rw [g93e, upd2_nk (by omega)]
      have k0_0 : g93 0 13 = g0 0 13 := by rw [g93e]; exact (upd2_nk (by omega)).trans k0_0
      have hJ : pJ g93 := by rw [g93e]; exact pJ.updn hJ (by omega)
      refine Ex.cb (sX6_readOption_5_gap fu hfu 30 0 g93 L89 hI hJ) (fun x95 g96 L97 hq99 => ?_)
      obtain ⟨hI, hJ, kk0, kk1⟩ := hq99
      have hI : zI XT g96 := hI
      have hJ : pJ g96 := hJ
      have w100 : (Int32.toInt (g96 2 2)) = (Int32.toInt (g93 2 2)) := congrArg Int32.toInt kk0
      have k0_0 : g96 0 13 = g0 0 13 := kk1.trans k0_0
      refine Ex.sti (hI.updN (xt_lesN (by omega) (by omega) (by decide))) (fun g101 g101e hI => ?_)
      have w102 : (Int32.toInt (g101 2 2)) = (Int32.toInt (g96 2 2)) := by rw [g101e, upd2_nk (by omega)]
      have k0_0 : g101 0 13 = g0 0 13 := by rw [g101e]; exact (upd2_nk (by omega)).trans k0_0
      have hJ : pJ g101 := by rw [g101e]; exact pJ.updn hJ (by omega)
      have b103 : 0 ≤ (Int32.toInt (g101 2 2)) ∧ (Int32.toInt (g101 2 2)) ≤ 12 := hI 2 2 0 12 rfl
      generalize z104q : ((g101 2 2) + 1) = z104
      have e105 : (Int32.toInt z104) = (Int32.toInt (g101 2 2)) + 1 := by rw [← z104q]; exact ic_addc rfl (by decide) (by omega) (by omega)
      refine Ex.sti (hI.upd rfl (by omega) (by omega)) (fun g106 g106e hI => ?_)
      have k0_0 : g106 0 13 = g0 0 13 := by rw [g106e]; exact k0_0
      have hJ : pJ g106 := by rw [g106e]; exact pJ.upd hJ rfl
      have w107 : (Int32.toInt (g106 2 2)) = (Int32.toInt z104) := by rw [g106e, upd2_at]
      exact Ex.ret ⟨hI, hJ, k0_0⟩
    refine Ex.ite (fun c108 => ?_) (fun c108 => ?_)
    ·
      have c108 := icc_eq (m := (Int32.toInt x72)) (n := 0) rfl (by decide) c108
      refine Ex.cb (sX6_isWord_5_some fu hfu g73 L74 hI hJ) (fun x109 g110 L111 hq113 => ?_)
      obtain ⟨hI, hJ, kk0, kk1, rb_⟩ := hq113
      have b114 : 0 ≤ (Int32.toInt x109) ∧ (Int32.toInt x109) ≤ 1 := rb_
      have hI : zI XT g110 := hI
      have hJ : pJ g110 := hJ
      have w115 : (Int32.toInt (g110 2 2)) = (Int32.toInt (g73 2 2)) := congrArg Int32.toInt kk0
      have k0_0 : g110 0 13 = g0 0 13 := kk1.trans k0_0
      refine Ex.ite (fun c116 => ?_) (fun c116 => ?_)
      ·
        have c116 := icc_eq (m := (Int32.toInt x109)) (n := 0) rfl (by decide) c116
        exact J176 q4 g110 L111 (by omega) (by omega) (by omega) hI hJ k0_0
      ·
        have c116 := icc_neq (m := (Int32.toInt x109)) (n := 0) rfl (by decide) c116
        refine Ex.cb (sX6_advance_5 fu hfu g110 L111 hI hJ) (fun x117 g118 L119 hq121 => ?_)
        obtain ⟨hI, hJ, kk0, kk1⟩ := hq121
        have hI : zI XT g118 := hI
        have hJ : pJ g118 := hJ
        have w122 : (Int32.toInt (g118 2 2)) = (Int32.toInt (g110 2 2)) := congrArg Int32.toInt kk0
        have k0_0 : g118 0 13 = g0 0 13 := kk1.trans k0_0
        refine Ex.sti (hI.updN (xt_lesN (by omega) (by omega) (by decide))) (fun g123 g123e hI => ?_)
        have w124 : (Int32.toInt (g123 2 2)) = (Int32.toInt (g118 2 2)) := by rw [g123e, upd2_nk (by omega)]
        have k0_0 : g123 0 13 = g0 0 13 := by rw [g123e]; exact (upd2_nk (by omega)).trans k0_0
        have hJ : pJ g123 := by rw [g123e]; exact pJ.updn hJ (by omega)
        refine Ex.cb (sX6_readNumber_5 fu hfu 1 6 g123 L119 hI hJ) (fun x125 g126 L127 hq129 => ?_)
        obtain ⟨hI, hJ, kk0, kk1, rb_⟩ := hq129
        have b130 : 0 ≤ (Int32.toInt x125) ∧ (Int32.toInt x125) ≤ 9999 := rb_
        have hI : zI XT g126 := hI
        have hJ : pJ g126 := hJ
        have w131 : (Int32.toInt (g126 2 2)) = (Int32.toInt (g123 2 2)) := congrArg Int32.toInt kk0
        have k0_0 : g126 0 13 = g0 0 13 := kk1.trans k0_0
        refine Ex.sti (hI.updN (xt_lesN (by omega) (by omega) (by decide))) (fun g132 g132e hI => ?_)
        have w133 : (Int32.toInt (g132 2 2)) = (Int32.toInt (g126 2 2)) := by rw [g132e, upd2_nk (by omega)]
        have k0_0 : g132 0 13 = g0 0 13 := by rw [g132e]; exact (upd2_nk (by omega)).trans k0_0
        have hJ : pJ g132 := by rw [g132e]; exact pJ.updn hJ (by omega)
        refine Ex.cb (sX6_readWaited_5_les fu hfu q4 g132 L127 hI hJ (by omega) (by omega) (by omega)) (fun x134 g135 L136 hq138 => ?_)
        obtain ⟨hI, hJ, kk0, kk1⟩ := hq138
        have hI : zI XT g135 := hI
        have hJ : pJ g135 := hJ
        have w139 : (Int32.toInt (g135 2 2)) = (Int32.toInt (g132 2 2)) := congrArg Int32.toInt kk0
        have k0_0 : g135 0 13 = g0 0 13 := kk1.trans k0_0
        exact J176 q4 g135 L136 (by omega) (by omega) (by omega) hI hJ k0_0
    ·
      have c108 := icc_neq (m := (Int32.toInt x72)) (n := 0) rfl (by decide) c108
      refine Ex.cb (sX6_advance_5 fu hfu g73 L74 hI hJ) (fun x140 g141 L142 hq144 => ?_)
      obtain ⟨hI, hJ, kk0, kk1⟩ := hq144
      have hI : zI XT g141 := hI
      have hJ : pJ g141 := hJ
      have w145 : (Int32.toInt (g141 2 2)) = (Int32.toInt (g73 2 2)) := congrArg Int32.toInt kk0
      have k0_0 : g141 0 13 = g0 0 13 := kk1.trans k0_0
      refine Ex.sti (hI.updN (xt_lesN (by omega) (by omega) (by decide))) (fun g146 g146e hI => ?_)
      have w147 : (Int32.toInt (g146 2 2)) = (Int32.toInt (g141 2 2)) := by rw [g146e, upd2_nk (by omega)]
      have k0_0 : g146 0 13 = g0 0 13 := by rw [g146e]; exact (upd2_nk (by omega)).trans k0_0
      have hJ : pJ g146 := by rw [g146e]; exact pJ.updn hJ (by omega)
      refine Ex.cb (sX6_readWaited_5_les fu hfu q4 g146 L142 hI hJ (by omega) (by omega) (by omega)) (fun x148 g149 L150 hq152 => ?_)
      obtain ⟨hI, hJ, kk0, kk1⟩ := hq152
      have hI : zI XT g149 := hI
      have hJ : pJ g149 := hJ
      have w153 : (Int32.toInt (g149 2 2)) = (Int32.toInt (g146 2 2)) := congrArg Int32.toInt kk0
      have k0_0 : g149 0 13 = g0 0 13 := kk1.trans k0_0
      exact J176 q4 g149 L150 (by omega) (by omega) (by omega) hI hJ k0_0
  ·
    have c2 := icc_nlt (m := (Int32.toInt (g0 2 2))) (n := 12) rfl (by decide) c2
    refine Ex.cb (sX6_refuse_5 fu hfu 2 g0 L0 hI hJ) (fun x154 g155 L156 hq158 => ?_)
    obtain ⟨hI, hJ, kk0, kk1⟩ := hq158
    have hI : zI XT g155 := hI
    have hJ : pJ g155 := hJ
    have w159 : (Int32.toInt (g155 2 2)) = (Int32.toInt (g0 2 2)) := congrArg Int32.toInt kk0
    have k0_0 : g155 0 13 = g0 0 13 := kk1.trans k0_0
    exact Ex.ret ⟨hI, hJ, k0_0⟩
set_option maxHeartbeats 4000000 in
set_option maxRecDepth 100000 in
theorem sX6_isWord_5_walk (fu : Nat) (hfu : 1180591620717411303424 ≤ fu) (g0 : Nat → Nat → Int32) (L0 : Nat → Nat → Int64) (hI : zI XT g0) (hJ : pJ g0) : Ex (fX6_isWord_5_walk fu g0 L0) (fun (r : Int32) (g1 : Nat → Nat → Int32) (L1 : Nat → Nat → Int64) => zI XT g1 ∧ pJ g1 ∧ g1 2 2 = g0 2 2 ∧ g1 0 13 = g0 0 13 ∧ (0 ≤ (Int32.toInt r) ∧ (Int32.toInt r) ≤ 1)) := by
  have k0_0 : g0 2 2 = g0 2 2 := rfl
  have k0_1 : g0 0 13 = g0 0 13 := rfl
  unfold fX6_isWord_5_walk
  have J24 : ∀ (g : Nat → Nat → Int32) (L : Nat → Nat → Int64), zI XT g → pJ g → g 2 2 = g0 2 2 → g 0 13 = g0 0 13 → Ex (fX6_isWord_5_walk_p24 fu g L) (fun (r : Int32) (g1 : Nat → Nat → Int32) (L1 : Nat → Nat → Int64) => zI XT g1 ∧ pJ g1 ∧ g1 2 2 = g0 2 2 ∧ g1 0 13 = g0 0 13 ∧ (0 ≤ (Int32.toInt r) ∧ (Int32.toInt r) ≤ 1)) := by
    intro g L hI hJ k0_0 k0_1
    unfold fX6_isWord_5_walk_p24
    refine Ex.ckb rfl ?_
    exact Ex.ret ⟨hI, hJ, k0_0, k0_1, (by decide)⟩
  refine Ex.ite (fun c1 => ?_) (fun c1 => ?_)
  ·
    have c1 := icc_eq (m := (Int32.toInt (g0 5 4))) (n := 2) rfl (by decide) c1
    have b2 : 0 ≤ (Int32.toInt (g0 5 3)) ∧ (Int32.toInt (g0 5 3)) ≤ 700 := hI 5 3 0 700 rfl
    have b3 : 0 ≤ (Int32.toInt (g0 5 5)) ∧ (Int32.toInt (g0 5 5)) ≤ 700 := hI 5 5 0 700 rfl
    generalize z4q : ((g0 5 3) - (g0 5 5)) = z4
    have e5 : (Int32.toInt z4) = (Int32.toInt (g0 5 3)) - (Int32.toInt (g0 5 5)) := by rw [← z4q]; exact ic_subc rfl rfl (by omega) (by omega)
    refine Ex.ite (fun c6 => ?_) (fun c6 => ?_)
    ·
      have c6 := icc_eq (m := (Int32.toInt z4)) (n := 4) rfl (by decide) c6
      have lp28 : ∀ (v2 : Int32) (g : Nat → Nat → Int32) (L : Nat → Nat → Int64), (0 ≤ (Int32.toInt v2) ∧ (Int32.toInt v2) ≤ 4) → ((Int32.toInt (g 5 5)) = (Int32.toInt (g0 5 5))) → zI XT g → pJ g → g 2 2 = g0 2 2 → g 0 13 = g0 0 13 → Ex (fX6_isWord_5_walk_l28 fu v2 g L) (fun (r : Int32) (g1 : Nat → Nat → Int32) (L1 : Nat → Nat → Int64) => zI XT g1 ∧ pJ g1 ∧ g1 2 2 = g0 2 2 ∧ g1 0 13 = g0 0 13 ∧ (0 ≤ (Int32.toInt r) ∧ (Int32.toInt r) ≤ 1)) := by
        intro v2 g L hb_v2 hn_0 hI hJ k0_0 k0_1
        unfold fX6_isWord_5_walk_l28
        refine Ex.loop (fun v => ((0 ≤ (Int32.toInt (v.1)) ∧ (Int32.toInt (v.1)) ≤ 4)) ∧ (((Int32.toInt ((v.2.1) 5 5)) = (Int32.toInt (g0 5 5)))) ∧ (zI XT (v.2.1)) ∧ (pJ (v.2.1)) ∧ ((v.2.1) 2 2 = g0 2 2) ∧ ((v.2.1) 0 13 = g0 0 13)) (fun v => 5 - (Int32.toInt (v.1))) (by omega) (by show 5 - (Int32.toInt v2) < (fu : Int); omega) ⟨hb_v2, hn_0, hI, hJ, k0_0, k0_1⟩ (fun k28 v hv ih28 => ?_)
        obtain ⟨v2, g, L⟩ := v
        obtain ⟨hb_v2, hn_0, hI, hJ, k0_0, k0_1⟩ := hv
        have hb_v2 : (0 ≤ (Int32.toInt v2) ∧ (Int32.toInt v2) ≤ 4) := hb_v2
        have hn_0 : ((Int32.toInt (g 5 5)) = (Int32.toInt (g0 5 5))) := hn_0
        have hI : zI XT g := hI
        have hJ : pJ g := hJ
        have k0_0 : g 2 2 = g0 2 2 := k0_0
        have k0_1 : g 0 13 = g0 0 13 := k0_1
        have ih28 : ∀ v' : Int32 × (Nat → Nat → Int32) × (Nat → Nat → Int64), (((0 ≤ (Int32.toInt (v'.1)) ∧ (Int32.toInt (v'.1)) ≤ 4)) ∧ (((Int32.toInt ((v'.2.1) 5 5)) = (Int32.toInt (g0 5 5)))) ∧ (zI XT (v'.2.1)) ∧ (pJ (v'.2.1)) ∧ ((v'.2.1) 2 2 = g0 2 2) ∧ ((v'.2.1) 0 13 = g0 0 13)) → 5 - (Int32.toInt (v'.1)) < 5 - (Int32.toInt v2) → 0 < 5 - (Int32.toInt v2) → Ex (k28 v') (fun (r : Int32) (g1 : Nat → Nat → Int32) (L1 : Nat → Nat → Int64) => zI XT g1 ∧ pJ g1 ∧ g1 2 2 = g0 2 2 ∧ g1 0 13 = g0 0 13 ∧ (0 ≤ (Int32.toInt r) ∧ (Int32.toInt r) ≤ 1)) := ih28
        show Ex (fX6_isWord_5_walk_s28 fu k28 v2 g L) (fun (r : Int32) (g1 : Nat → Nat → Int32) (L1 : Nat → Nat → Int64) => zI XT g1 ∧ pJ g1 ∧ g1 2 2 = g0 2 2 ∧ g1 0 13 = g0 0 13 ∧ (0 ≤ (Int32.toInt r) ∧ (Int32.toInt r) ≤ 1))
        unfold fX6_isWord_5_walk_s28
        refine Ex.ite (fun c7 => ?_) (fun c7 => ?_)
        ·
          have c7 := icc_le (m := 4) (n := (Int32.toInt v2)) (by decide) rfl c7
          refine Ex.ckb rfl ?_
          exact Ex.ret ⟨hI, hJ, k0_0, k0_1, (by decide)⟩
        ·
          have c7 := icc_nle (m := 4) (n := (Int32.toInt v2)) (by decide) rfl c7
          have b8 : 0 ≤ (Int32.toInt (g 5 5)) ∧ (Int32.toInt (g 5 5)) ≤ 700 := hI 5 5 0 700 rfl
          generalize z9q : ((g 5 5) + v2) = z9
          have e10 : (Int32.toInt z9) = (Int32.toInt (g 5 5)) + (Int32.toInt v2) := by rw [← z9q]; exact ic_addc rfl rfl (by omega) (by omega)
          refine Ex.ck (by omega) (by omega) ?_
          have b11 : 0 ≤ (Int32.toInt (g 14 (Int32.toNatClampNeg z9))) ∧ (Int32.toInt (g 14 (Int32.toNatClampNeg z9))) ≤ 255 := hI 14 _ 0 255 rfl
          refine Ex.ck (by omega) (by omega) ?_
          refine Ex.ite (fun c12 => ?_) (fun c12 => ?_)
          ·
            have c12 := icc_eq (m := (Int32.toInt (g 14 (Int32.toNatClampNeg z9)))) (n := (Int32.toInt (sch 1 (Int32.toNatClampNeg v2)))) rfl rfl c12
            generalize z13q : (v2 + 1) = z13
            have e14 : (Int32.toInt z13) = (Int32.toInt v2) + 1 := by rw [← z13q]; exact ic_addc rfl (by decide) (by omega) (by omega)
            exact ih28 (z13, g, L) ⟨(show (0 ≤ (Int32.toInt z13) ∧ (Int32.toInt z13) ≤ 4) from by omega), (show ((Int32.toInt (g 5 5)) = (Int32.toInt (g0 5 5))) from by omega), hI, hJ, k0_0, k0_1⟩ (by show 5 - (Int32.toInt z13) < _; omega) (by omega)
          ·
            have c12 := icc_neq (m := (Int32.toInt (g 14 (Int32.toNatClampNeg z9)))) (n := (Int32.toInt (sch 1 (Int32.toNatClampNeg v2)))) rfl rfl c12
            refine Ex.ckb rfl ?_
            exact Ex.ret ⟨hI, hJ, k0_0, k0_1, (by decide)⟩
      have hc_ : (0 : Int32).toInt = 0 := by decide
      exact lp28 0 g0 L0 (by decide) (by omega) hI hJ k0_0 k0_1
    ·
      have c6 := icc_neq (m := (Int32.toInt z4)) (n := 4) rfl (by decide) c6
      exact J24 g0 L0 hI hJ k0_0 k0_1
  ·
    have c1 := icc_neq (m := (Int32.toInt (g0 5 4))) (n := 2) rfl (by decide) c1
    exact J24 g0 L0 hI hJ k0_0 k0_1
set_option maxHeartbeats 4000000 in
set_option maxRecDepth 100000 in
theorem sX6_isWord_5_stair (fu : Nat) (hfu : 1180591620717411303424 ≤ fu) (g0 : Nat → Nat → Int32) (L0 : Nat → Nat → Int64) (hI : zI XT g0) (hJ : pJ g0) : Ex (fX6_isWord_5_stair fu g0 L0) (fun (r : Int32) (g1 : Nat → Nat → Int32) (L1 : Nat → Nat → Int64) => zI XT g1 ∧ pJ g1 ∧ g1 2 2 = g0 2 2 ∧ g1 0 13 = g0 0 13 ∧ (0 ≤ (Int32.toInt r) ∧ (Int32.toInt r) ≤ 1)) := by
  have k0_0 : g0 2 2 = g0 2 2 := rfl
  have k0_1 : g0 0 13 = g0 0 13 := rfl
  unfold fX6_isWord_5_stair
  have J24 : ∀ (g : Nat → Nat → Int32) (L : Nat → Nat → Int64), zI XT g → pJ g → g 2 2 = g0 2 2 → g 0 13 = g0 0 13 → Ex (fX6_isWord_5_stair_p24 fu g L) (fun (r : Int32) (g1 : Nat → Nat → Int32) (L1 : Nat → Nat → Int64) => zI XT g1 ∧ pJ g1 ∧ g1 2 2 = g0 2 2 ∧ g1 0 13 = g0 0 13 ∧ (0 ≤ (Int32.toInt r) ∧ (Int32.toInt r) ≤ 1)) := by
    intro g L hI hJ k0_0 k0_1
    unfold fX6_isWord_5_stair_p24
    refine Ex.ckb rfl ?_
    exact Ex.ret ⟨hI, hJ, k0_0, k0_1, (by decide)⟩
  refine Ex.ite (fun c1 => ?_) (fun c1 => ?_)
  ·
    have c1 := icc_eq (m := (Int32.toInt (g0 5 4))) (n := 2) rfl (by decide) c1
    have b2 : 0 ≤ (Int32.toInt (g0 5 3)) ∧ (Int32.toInt (g0 5 3)) ≤ 700 := hI 5 3 0 700 rfl
    have b3 : 0 ≤ (Int32.toInt (g0 5 5)) ∧ (Int32.toInt (g0 5 5)) ≤ 700 := hI 5 5 0 700 rfl
    generalize z4q : ((g0 5 3) - (g0 5 5)) = z4
    have e5 : (Int32.toInt z4) = (Int32.toInt (g0 5 3)) - (Int32.toInt (g0 5 5)) := by rw [← z4q]; exact ic_subc rfl rfl (by omega) (by omega)
    refine Ex.ite (fun c6 => ?_) (fun c6 => ?_)
    ·
      have c6 := icc_eq (m := (Int32.toInt z4)) (n := 5) rfl (by decide) c6
      have lp28 : ∀ (v2 : Int32) (g : Nat → Nat → Int32) (L : Nat → Nat → Int64), (0 ≤ (Int32.toInt v2) ∧ (Int32.toInt v2) ≤ 5) → ((Int32.toInt (g 5 5)) = (Int32.toInt (g0 5 5))) → zI XT g → pJ g → g 2 2 = g0 2 2 → g 0 13 = g0 0 13 → Ex (fX6_isWord_5_stair_l28 fu v2 g L) (fun (r : Int32) (g1 : Nat → Nat → Int32) (L1 : Nat → Nat → Int64) => zI XT g1 ∧ pJ g1 ∧ g1 2 2 = g0 2 2 ∧ g1 0 13 = g0 0 13 ∧ (0 ≤ (Int32.toInt r) ∧ (Int32.toInt r) ≤ 1)) := by
        intro v2 g L hb_v2 hn_0 hI hJ k0_0 k0_1
        unfold fX6_isWord_5_stair_l28
        refine Ex.loop (fun v => ((0 ≤ (Int32.toInt (v.1)) ∧ (Int32.toInt (v.1)) ≤ 5)) ∧ (((Int32.toInt ((v.2.1) 5 5)) = (Int32.toInt (g0 5 5)))) ∧ (zI XT (v.2.1)) ∧ (pJ (v.2.1)) ∧ ((v.2.1) 2 2 = g0 2 2) ∧ ((v.2.1) 0 13 = g0 0 13)) (fun v => 6 - (Int32.toInt (v.1))) (by omega) (by show 6 - (Int32.toInt v2) < (fu : Int); omega) ⟨hb_v2, hn_0, hI, hJ, k0_0, k0_1⟩ (fun k28 v hv ih28 => ?_)
        obtain ⟨v2, g, L⟩ := v
        obtain ⟨hb_v2, hn_0, hI, hJ, k0_0, k0_1⟩ := hv
        have hb_v2 : (0 ≤ (Int32.toInt v2) ∧ (Int32.toInt v2) ≤ 5) := hb_v2
        have hn_0 : ((Int32.toInt (g 5 5)) = (Int32.toInt (g0 5 5))) := hn_0
        have hI : zI XT g := hI
        have hJ : pJ g := hJ
        have k0_0 : g 2 2 = g0 2 2 := k0_0
        have k0_1 : g 0 13 = g0 0 13 := k0_1
        have ih28 : ∀ v' : Int32 × (Nat → Nat → Int32) × (Nat → Nat → Int64), (((0 ≤ (Int32.toInt (v'.1)) ∧ (Int32.toInt (v'.1)) ≤ 5)) ∧ (((Int32.toInt ((v'.2.1) 5 5)) = (Int32.toInt (g0 5 5)))) ∧ (zI XT (v'.2.1)) ∧ (pJ (v'.2.1)) ∧ ((v'.2.1) 2 2 = g0 2 2) ∧ ((v'.2.1) 0 13 = g0 0 13)) → 6 - (Int32.toInt (v'.1)) < 6 - (Int32.toInt v2) → 0 < 6 - (Int32.toInt v2) → Ex (k28 v') (fun (r : Int32) (g1 : Nat → Nat → Int32) (L1 : Nat → Nat → Int64) => zI XT g1 ∧ pJ g1 ∧ g1 2 2 = g0 2 2 ∧ g1 0 13 = g0 0 13 ∧ (0 ≤ (Int32.toInt r) ∧ (Int32.toInt r) ≤ 1)) := ih28
        show Ex (fX6_isWord_5_stair_s28 fu k28 v2 g L) (fun (r : Int32) (g1 : Nat → Nat → Int32) (L1 : Nat → Nat → Int64) => zI XT g1 ∧ pJ g1 ∧ g1 2 2 = g0 2 2 ∧ g1 0 13 = g0 0 13 ∧ (0 ≤ (Int32.toInt r) ∧ (Int32.toInt r) ≤ 1))
        unfold fX6_isWord_5_stair_s28
        refine Ex.ite (fun c7 => ?_) (fun c7 => ?_)
        ·
          have c7 := icc_le (m := 5) (n := (Int32.toInt v2)) (by decide) rfl c7
          refine Ex.ckb rfl ?_
          exact Ex.ret ⟨hI, hJ, k0_0, k0_1, (by decide)⟩
        ·
          have c7 := icc_nle (m := 5) (n := (Int32.toInt v2)) (by decide) rfl c7
          have b8 : 0 ≤ (Int32.toInt (g 5 5)) ∧ (Int32.toInt (g 5 5)) ≤ 700 := hI 5 5 0 700 rfl
          generalize z9q : ((g 5 5) + v2) = z9
          have e10 : (Int32.toInt z9) = (Int32.toInt (g 5 5)) + (Int32.toInt v2) := by rw [← z9q]; exact ic_addc rfl rfl (by omega) (by omega)
          refine Ex.ck (by omega) (by omega) ?_
          have b11 : 0 ≤ (Int32.toInt (g 14 (Int32.toNatClampNeg z9))) ∧ (Int32.toInt (g 14 (Int32.toNatClampNeg z9))) ≤ 255 := hI 14 _ 0 255 rfl
          refine Ex.ck (by omega) (by omega) ?_
          refine Ex.ite (fun c12 => ?_) (fun c12 => ?_)
          ·
            have c12 := icc_eq (m := (Int32.toInt (g 14 (Int32.toNatClampNeg z9)))) (n := (Int32.toInt (sch 2 (Int32.toNatClampNeg v2)))) rfl rfl c12
            generalize z13q : (v2 + 1) = z13
            have e14 : (Int32.toInt z13) = (Int32.toInt v2) + 1 := by rw [← z13q]; exact ic_addc rfl (by decide) (by omega) (by omega)
            exact ih28 (z13, g, L) ⟨(show (0 ≤ (Int32.toInt z13) ∧ (Int32.toInt z13) ≤ 5) from by omega), (show ((Int32.toInt (g 5 5)) = (Int32.toInt (g0 5 5))) from by omega), hI, hJ, k0_0, k0_1⟩ (by show 6 - (Int32.toInt z13) < _; omega) (by omega)
          ·
            have c12 := icc_neq (m := (Int32.toInt (g 14 (Int32.toNatClampNeg z9)))) (n := (Int32.toInt (sch 2 (Int32.toNatClampNeg v2)))) rfl rfl c12
            refine Ex.ckb rfl ?_
            exact Ex.ret ⟨hI, hJ, k0_0, k0_1, (by decide)⟩
      have hc_ : (0 : Int32).toInt = 0 := by decide
      exact lp28 0 g0 L0 (by decide) (by omega) hI hJ k0_0 k0_1
    ·
      have c6 := icc_neq (m := (Int32.toInt z4)) (n := 5) rfl (by decide) c6
      exact J24 g0 L0 hI hJ k0_0 k0_1
  ·
    have c1 := icc_neq (m := (Int32.toInt (g0 5 4))) (n := 2) rfl (by decide) c1
    exact J24 g0 L0 hI hJ k0_0 k0_1
set_option maxHeartbeats 4000000 in
set_option maxRecDepth 100000 in
theorem sX6_isWord_5_rule (fu : Nat) (hfu : 1180591620717411303424 ≤ fu) (g0 : Nat → Nat → Int32) (L0 : Nat → Nat → Int64) (hI : zI XT g0) (hJ : pJ g0) : Ex (fX6_isWord_5_rule fu g0 L0) (fun (r : Int32) (g1 : Nat → Nat → Int32) (L1 : Nat → Nat → Int64) => zI XT g1 ∧ pJ g1 ∧ g1 2 2 = g0 2 2 ∧ g1 0 13 = g0 0 13 ∧ (0 ≤ (Int32.toInt r) ∧ (Int32.toInt r) ≤ 1)) := by
  have k0_0 : g0 2 2 = g0 2 2 := rfl
  have k0_1 : g0 0 13 = g0 0 13 := rfl
  unfold fX6_isWord_5_rule
  have J24 : ∀ (g : Nat → Nat → Int32) (L : Nat → Nat → Int64), zI XT g → pJ g → g 2 2 = g0 2 2 → g 0 13 = g0 0 13 → Ex (fX6_isWord_5_rule_p24 fu g L) (fun (r : Int32) (g1 : Nat → Nat → Int32) (L1 : Nat → Nat → Int64) => zI XT g1 ∧ pJ g1 ∧ g1 2 2 = g0 2 2 ∧ g1 0 13 = g0 0 13 ∧ (0 ≤ (Int32.toInt r) ∧ (Int32.toInt r) ≤ 1)) := by
    intro g L hI hJ k0_0 k0_1
    unfold fX6_isWord_5_rule_p24
    refine Ex.ckb rfl ?_
    exact Ex.ret ⟨hI, hJ, k0_0, k0_1, (by decide)⟩
  refine Ex.ite (fun c1 => ?_) (fun c1 => ?_)
  ·
    have c1 := icc_eq (m := (Int32.toInt (g0 5 4))) (n := 2) rfl (by decide) c1
    have b2 : 0 ≤ (Int32.toInt (g0 5 3)) ∧ (Int32.toInt (g0 5 3)) ≤ 700 := hI 5 3 0 700 rfl
    have b3 : 0 ≤ (Int32.toInt (g0 5 5)) ∧ (Int32.toInt (g0 5 5)) ≤ 700 := hI 5 5 0 700 rfl
    generalize z4q : ((g0 5 3) - (g0 5 5)) = z4
    have e5 : (Int32.toInt z4) = (Int32.toInt (g0 5 3)) - (Int32.toInt (g0 5 5)) := by rw [← z4q]; exact ic_subc rfl rfl (by omega) (by omega)
    refine Ex.ite (fun c6 => ?_) (fun c6 => ?_)
    ·
      have c6 := icc_eq (m := (Int32.toInt z4)) (n := 4) rfl (by decide) c6
      have lp28 : ∀ (v2 : Int32) (g : Nat → Nat → Int32) (L : Nat → Nat → Int64), (0 ≤ (Int32.toInt v2) ∧ (Int32.toInt v2) ≤ 4) → ((Int32.toInt (g 5 5)) = (Int32.toInt (g0 5 5))) → zI XT g → pJ g → g 2 2 = g0 2 2 → g 0 13 = g0 0 13 → Ex (fX6_isWord_5_rule_l28 fu v2 g L) (fun (r : Int32) (g1 : Nat → Nat → Int32) (L1 : Nat → Nat → Int64) => zI XT g1 ∧ pJ g1 ∧ g1 2 2 = g0 2 2 ∧ g1 0 13 = g0 0 13 ∧ (0 ≤ (Int32.toInt r) ∧ (Int32.toInt r) ≤ 1)) := by
        intro v2 g L hb_v2 hn_0 hI hJ k0_0 k0_1
        unfold fX6_isWord_5_rule_l28
        refine Ex.loop (fun v => ((0 ≤ (Int32.toInt (v.1)) ∧ (Int32.toInt (v.1)) ≤ 4)) ∧ (((Int32.toInt ((v.2.1) 5 5)) = (Int32.toInt (g0 5 5)))) ∧ (zI XT (v.2.1)) ∧ (pJ (v.2.1)) ∧ ((v.2.1) 2 2 = g0 2 2) ∧ ((v.2.1) 0 13 = g0 0 13)) (fun v => 5 - (Int32.toInt (v.1))) (by omega) (by show 5 - (Int32.toInt v2) < (fu : Int); omega) ⟨hb_v2, hn_0, hI, hJ, k0_0, k0_1⟩ (fun k28 v hv ih28 => ?_)
        obtain ⟨v2, g, L⟩ := v
        obtain ⟨hb_v2, hn_0, hI, hJ, k0_0, k0_1⟩ := hv
        have hb_v2 : (0 ≤ (Int32.toInt v2) ∧ (Int32.toInt v2) ≤ 4) := hb_v2
        have hn_0 : ((Int32.toInt (g 5 5)) = (Int32.toInt (g0 5 5))) := hn_0
        have hI : zI XT g := hI
        have hJ : pJ g := hJ
        have k0_0 : g 2 2 = g0 2 2 := k0_0
        have k0_1 : g 0 13 = g0 0 13 := k0_1
        have ih28 : ∀ v' : Int32 × (Nat → Nat → Int32) × (Nat → Nat → Int64), (((0 ≤ (Int32.toInt (v'.1)) ∧ (Int32.toInt (v'.1)) ≤ 4)) ∧ (((Int32.toInt ((v'.2.1) 5 5)) = (Int32.toInt (g0 5 5)))) ∧ (zI XT (v'.2.1)) ∧ (pJ (v'.2.1)) ∧ ((v'.2.1) 2 2 = g0 2 2) ∧ ((v'.2.1) 0 13 = g0 0 13)) → 5 - (Int32.toInt (v'.1)) < 5 - (Int32.toInt v2) → 0 < 5 - (Int32.toInt v2) → Ex (k28 v') (fun (r : Int32) (g1 : Nat → Nat → Int32) (L1 : Nat → Nat → Int64) => zI XT g1 ∧ pJ g1 ∧ g1 2 2 = g0 2 2 ∧ g1 0 13 = g0 0 13 ∧ (0 ≤ (Int32.toInt r) ∧ (Int32.toInt r) ≤ 1)) := ih28
        show Ex (fX6_isWord_5_rule_s28 fu k28 v2 g L) (fun (r : Int32) (g1 : Nat → Nat → Int32) (L1 : Nat → Nat → Int64) => zI XT g1 ∧ pJ g1 ∧ g1 2 2 = g0 2 2 ∧ g1 0 13 = g0 0 13 ∧ (0 ≤ (Int32.toInt r) ∧ (Int32.toInt r) ≤ 1))
        unfold fX6_isWord_5_rule_s28
        refine Ex.ite (fun c7 => ?_) (fun c7 => ?_)
        ·
          have c7 := icc_le (m := 4) (n := (Int32.toInt v2)) (by decide) rfl c7
          refine Ex.ckb rfl ?_
          exact Ex.ret ⟨hI, hJ, k0_0, k0_1, (by decide)⟩
        ·
          have c7 := icc_nle (m := 4) (n := (Int32.toInt v2)) (by decide) rfl c7
          have b8 : 0 ≤ (Int32.toInt (g 5 5)) ∧ (Int32.toInt (g 5 5)) ≤ 700 := hI 5 5 0 700 rfl
          generalize z9q : ((g 5 5) + v2) = z9
          have e10 : (Int32.toInt z9) = (Int32.toInt (g 5 5)) + (Int32.toInt v2) := by rw [← z9q]; exact ic_addc rfl rfl (by omega) (by omega)
          refine Ex.ck (by omega) (by omega) ?_
          have b11 : 0 ≤ (Int32.toInt (g 14 (Int32.toNatClampNeg z9))) ∧ (Int32.toInt (g 14 (Int32.toNatClampNeg z9))) ≤ 255 := hI 14 _ 0 255 rfl
          refine Ex.ck (by omega) (by omega) ?_
          refine Ex.ite (fun c12 => ?_) (fun c12 => ?_)
          ·
            have c12 := icc_eq (m := (Int32.toInt (g 14 (Int32.toNatClampNeg z9)))) (n := (Int32.toInt (sch 3 (Int32.toNatClampNeg v2)))) rfl rfl c12
            generalize z13q : (v2 + 1) = z13
            have e14 : (Int32.toInt z13) = (Int32.toInt v2) + 1 := by rw [← z13q]; exact ic_addc rfl (by decide) (by omega) (by omega)
            exact ih28 (z13, g, L) ⟨(show (0 ≤ (Int32.toInt z13) ∧ (Int32.toInt z13) ≤ 4) from by omega), (show ((Int32.toInt (g 5 5)) = (Int32.toInt (g0 5 5))) from by omega), hI, hJ, k0_0, k0_1⟩ (by show 5 - (Int32.toInt z13) < _; omega) (by omega)
          ·
            have c12 := icc_neq (m := (Int32.toInt (g 14 (Int32.toNatClampNeg z9)))) (n := (Int32.toInt (sch 3 (Int32.toNatClampNeg v2)))) rfl rfl c12
            refine Ex.ckb rfl ?_
            exact Ex.ret ⟨hI, hJ, k0_0, k0_1, (by decide)⟩
      have hc_ : (0 : Int32).toInt = 0 := by decide
      exact lp28 0 g0 L0 (by decide) (by omega) hI hJ k0_0 k0_1
    ·
      have c6 := icc_neq (m := (Int32.toInt z4)) (n := 4) rfl (by decide) c6
      exact J24 g0 L0 hI hJ k0_0 k0_1
  ·
    have c1 := icc_neq (m := (Int32.toInt (g0 5 4))) (n := 2) rfl (by decide) c1
    exact J24 g0 L0 hI hJ k0_0 k0_1
set_option maxHeartbeats 4000000 in
set_option maxRecDepth 100000 in
theorem sX6_readLine_5 (fu : Nat) (hfu : 1180591620717411303424 ≤ fu) (g0 : Nat → Nat → Int32) (L0 : Nat → Nat → Int64) (hI : zI XT g0) (hJ : pJ g0) : Ex (fX6_readLine_5 fu g0 L0) (fun (r : Unit) (g1 : Nat → Nat → Int32) (L1 : Nat → Nat → Int64) => zI XT g1 ∧ pJ g1 ∧ g1 0 13 = g0 0 13) := by
  have k0_0 : g0 0 13 = g0 0 13 := rfl
  unfold fX6_readLine_5
  refine Ex.cb (sX6_isWord_5_lesson fu hfu g0 L0 hI hJ) (fun x1 g2 L3 hq5 => ?_)
  obtain ⟨hI, hJ, kk0, kk1, rb_⟩ := hq5
  have b6 : 0 ≤ (Int32.toInt x1) ∧ (Int32.toInt x1) ≤ 1 := rb_
  have hI : zI XT g2 := hI
  have hJ : pJ g2 := hJ
  have k0_0 : g2 0 13 = g0 0 13 := kk1.trans k0_0
  have J69 : ∀ (g : Nat → Nat → Int32) (L : Nat → Nat → Int64), zI XT g → pJ g → g 0 13 = g0 0 13 → Ex (fX6_readLine_5_p69 fu g L) (fun (r : Unit) (g1 : Nat → Nat → Int32) (L1 : Nat → Nat → Int64) => zI XT g1 ∧ pJ g1 ∧ g1 0 13 = g0 0 13) := by
    intro g L hI hJ k0_0
    unfold fX6_readLine_5_p69
    refine Ex.cb (sX6_readSign_5 fu hfu 59 g L hI hJ) (fun x7 g8 L9 hq11 => ?_)
    obtain ⟨hI, hJ, kk0, kk1⟩ := hq11
    have hI : zI XT g8 := hI
    have hJ : pJ g8 := hJ
    have k0_0 : g8 0 13 = g0 0 13 := kk1.trans k0_0
    exact Ex.ret ⟨hI, hJ, k0_0⟩
  refine Ex.ite (fun c12 => ?_) (fun c12 => ?_)
  ·
    have c12 := icc_eq (m := (Int32.toInt x1)) (n := 0) rfl (by decide) c12
    refine Ex.cb (sX6_isWord_5_walk fu hfu g2 L3 hI hJ) (fun x13 g14 L15 hq17 => ?_)
    obtain ⟨hI, hJ, kk0, kk1, rb_⟩ := hq17
    have b18 : 0 ≤ (Int32.toInt x13) ∧ (Int32.toInt x13) ≤ 1 := rb_
    have hI : zI XT g14 := hI
    have hJ : pJ g14 := hJ
    have k0_0 : g14 0 13 = g0 0 13 := kk1.trans k0_0
    refine Ex.ite (fun c19 => ?_) (fun c19 => ?_)
    ·
      have c19 := icc_eq (m := (Int32.toInt x13)) (n := 0) rfl (by decide) c19
      refine Ex.cb (sX6_isWord_5_stair fu hfu g14 L15 hI hJ) (fun x20 g21 L22 hq24 => ?_)
      obtain ⟨hI, hJ, kk0, kk1, rb_⟩ := hq24
      have b25 : 0 ≤ (Int32.toInt x20) ∧ (Int32.toInt x20) ≤ 1 := rb_
      have hI : zI XT g21 := hI
      have hJ : pJ g21 := hJ
      have k0_0 : g21 0 13 = g0 0 13 := kk1.trans k0_0
      refine Ex.ite (fun c26 => ?_) (fun c26 => ?_)
      ·
        have c26 := icc_eq (m := (Int32.toInt x20)) (n := 0) rfl (by decide) c26
        refine Ex.cb (sX6_isWord_5_rule fu hfu g21 L22 hI hJ) (fun x27 g28 L29 hq31 => ?_)
        obtain ⟨hI, hJ, kk0, kk1, rb_⟩ := hq31
        have b32 : 0 ≤ (Int32.toInt x27) ∧ (Int32.toInt x27) ≤ 1 := rb_
        have hI : zI XT g28 := hI
        have hJ : pJ g28 := hJ
        have k0_0 : g28 0 13 = g0 0 13 := kk1.trans k0_0
        refine Ex.ite (fun c33 => ?_) (fun c33 => ?_)
        ·
          have c33 := icc_eq (m := (Int32.toInt x27)) (n := 0) rfl (by decide) c33
          refine Ex.cb (sX6_refuse_5 fu hfu 1 g28 L29 hI hJ) (fun x34 g35 L36 hq38 => ?_)
          obtain ⟨hI, hJ, kk0, kk1⟩ := hq38
          have hI : zI XT g35 := hI
          have hJ : pJ g35 := hJ
          have k0_0 : g35 0 13 = g0 0 13 := kk1.trans k0_0
          exact J69 g35 L36 hI hJ k0_0
        ·
          have c33 := icc_neq (m := (Int32.toInt x27)) (n := 0) rfl (by decide) c33
          refine Ex.cb (sX6_readRule_5 fu hfu g28 L29 hI hJ) (fun x39 g40 L41 hq43 => ?_)
          obtain ⟨hI, hJ, kk0, kk1⟩ := hq43
          have hI : zI XT g40 := hI
          have hJ : pJ g40 := hJ
          have k0_0 : g40 0 13 = g0 0 13 := kk1.trans k0_0
          exact J69 g40 L41 hI hJ k0_0
      ·
        have c26 := icc_neq (m := (Int32.toInt x20)) (n := 0) rfl (by decide) c26
        refine Ex.cb (sX6_readStair_5 fu hfu g21 L22 hI hJ) (fun x44 g45 L46 hq48 => ?_)
        obtain ⟨hI, hJ, kk0, kk1⟩ := hq48
        have hI : zI XT g45 := hI
        have hJ : pJ g45 := hJ
        have k0_0 : g45 0 13 = g0 0 13 := kk1.trans k0_0
        exact J69 g45 L46 hI hJ k0_0
    ·
      have c19 := icc_neq (m := (Int32.toInt x13)) (n := 0) rfl (by decide) c19
      refine Ex.cb (sX6_readWalk_5 fu hfu g14 L15 hI hJ) (fun x49 g50 L51 hq53 => ?_)
      obtain ⟨hI, hJ, kk0, kk1⟩ := hq53
      have hI : zI XT g50 := hI
      have hJ : pJ g50 := hJ
      have k0_0 : g50 0 13 = g0 0 13 := kk1.trans k0_0
      exact J69 g50 L51 hI hJ k0_0
  ·
    have c12 := icc_neq (m := (Int32.toInt x1)) (n := 0) rfl (by decide) c12
    refine Ex.cb (sX6_readLesson_5 fu hfu g2 L3 hI hJ) (fun x54 g55 L56 hq58 => ?_)
    obtain ⟨hI, hJ, kk0⟩ := hq58
    have hI : zI XT g55 := hI
    have hJ : pJ g55 := hJ
    have k0_0 : g55 0 13 = g0 0 13 := kk0.trans k0_0
    exact J69 g55 L56 hI hJ k0_0
end
section
set_option maxHeartbeats 4000000 in
set_option maxRecDepth 100000 in
theorem sX8_clear_4n (fu : Nat) (hfu : 1180591620717411303424 ≤ fu) (g0 : Nat → Nat → Int32) (L0 : Nat → Nat → Int64) (hI : zI XT g0) : Ex (fX8_clear_4 fu g0 L0) (fun (r : Unit) (g1 : Nat → Nat → Int32) (L1 : Nat → Nat → Int64) => zI XT g1 ∧ g1 0 13 = g0 0 13) := by
  have k0_0 : g0 0 13 = g0 0 13 := rfl
  unfold fX8_clear_4
  refine Ex.sti (hI.upd rfl (by decide) (by decide)) (fun g1 g1e hI => ?_)
  have k0_0 : g1 0 13 = g0 0 13 := by rw [g1e]; exact k0_0
  refine Ex.sti (hI.upd rfl (by decide) (by decide)) (fun g2 g2e hI => ?_)
  have k0_0 : g2 0 13 = g0 0 13 := by rw [g2e]; exact k0_0
  exact Ex.ret ⟨hI, k0_0⟩
set_option maxHeartbeats 4000000 in
set_option maxRecDepth 100000 in
theorem sX7_clear_2n (fu : Nat) (hfu : 1180591620717411303424 ≤ fu) (g0 : Nat → Nat → Int32) (L0 : Nat → Nat → Int64) (hI : zI XT g0) : Ex (fX7_clear_2 fu g0 L0) (fun (r : Unit) (g1 : Nat → Nat → Int32) (L1 : Nat → Nat → Int64) => zI XT g1 ∧ g1 0 13 = g0 0 13) := by
  have k0_0 : g0 0 13 = g0 0 13 := rfl
  unfold fX7_clear_2
  refine Ex.cb (sX8_clear_4n fu hfu g0 L0 hI) (fun x1 g2 L3 hq5 => ?_)
  obtain ⟨hI, kk0⟩ := hq5
  have hI : zI XT g2 := hI
  have k0_0 : g2 0 13 = g0 0 13 := kk0.trans k0_0
  refine Ex.sti (hI.upd rfl (by decide) (by decide)) (fun g6 g6e hI => ?_)
  have k0_0 : g6 0 13 = g0 0 13 := by rw [g6e]; exact k0_0
  refine Ex.sti (hI.updN rfl) (fun g7 g7e hI => ?_)
  have k0_0 : g7 0 13 = g0 0 13 := by rw [g7e]; exact k0_0
  refine Ex.sti (hI.updN rfl) (fun g8 g8e hI => ?_)
  have k0_0 : g8 0 13 = g0 0 13 := by rw [g8e]; exact k0_0
  exact Ex.ret ⟨hI, k0_0⟩
end
section
/-! ===== the class: reading a house ===== -/
set_option maxHeartbeats 4000000 in
theorem sX6_read_5_2 (fu : Nat) (hfu : 1180591620717411303424 ≤ fu) (p1 : Int32) (g0 : Nat → Nat → Int32) (L0 : Nat → Nat → Int64) (hI : zI XT g0) (hp : 0 ≤ p1.toInt) : Ex (fX6_read_5_2 fu p1 g0 L0) (fun (r : Unit) g1 L1 => zI XT g1 ∧ g1 0 13 = g0 0 13) := by
  unfold fX6_read_5_2
  refine Ex.cb (sX7_clear_2n fu hfu g0 L0 hI) (fun _ g2 L3 hq => ?_)
  obtain ⟨hI, k2⟩ := hq
  have hm := ic_min (x := p1) (y := 700) (m := p1.toInt) (n := 700) rfl (by decide)
  generalize (if 700 < p1 then 700 else p1) = w at hm ⊢
  refine Ex.sti (hI.upd (lo := 0) (hi := 700) rfl (by omega) (by omega)) (fun g5 g5e hI => ?_)
  refine Ex.sti (hI.upd (lo := 0) (hi := 700) rfl (by decide) (by decide)) (fun g6 g6e hI => ?_)
  refine Ex.sti (hI.updN rfl) (fun g7 g7e hI => ?_)
  refine Ex.sti (hI.updN rfl) (fun g8 g8e hI => ?_)
  refine Ex.sti (hI.upd (lo := 0) (hi := 1) rfl (by decide) (by decide)) (fun g9 g9e hI => ?_)
  refine Ex.sti (hI.upd (lo := 0) (hi := 1) rfl (by decide) (by decide)) (fun g10 g10e hI => ?_)
  refine Ex.sti (hI.updN rfl) (fun g11 g11e hI => ?_)
  have hJ : pJ g11 := by rw [g11e]; exact pJ.kind (by decide)
  have k11 : g11 0 13 = g0 0 13 := by rw [g11e, g10e, g9e, g8e, g7e, g6e, g5e]; exact k2
  refine Ex.cb (sX6_advance_5 fu hfu g11 L3 hI hJ) (fun _ g13 L14 hq => ?_)
  obtain ⟨hI, hJ, -, k13⟩ := hq
  have k13 : g13 0 13 = g0 0 13 := k13.trans k11
  unfold fX6_read_5_2_l61
  have e0 : (0 : Int32).toInt = 0 := by decide
  refine Ex.loop (α := Int32 × (Nat → Nat → Int32) × (Nat → Nat → Int64)) (fun v => (0 ≤ v.1.toInt ∧ v.1.toInt ≤ 701) ∧ zI XT v.2.1 ∧ pJ v.2.1 ∧ v.2.1 0 13 = g0 0 13) (fun v => 702 - v.1.toInt) (by omega) (by show 702 - (0 : Int32).toInt < (fu : Int); omega) ⟨(show 0 ≤ (0 : Int32).toInt ∧ (0 : Int32).toInt ≤ 701 from by omega), hI, hJ, k13⟩ (fun k61 v hv ih => ?_)
  obtain ⟨v3, g, L⟩ := v
  obtain ⟨hb, hI, hJ, hk⟩ := hv
  have hb : 0 ≤ v3.toInt ∧ v3.toInt ≤ 701 := hb
  have hI : zI XT g := hI
  have hJ : pJ g := hJ
  have hk : g 0 13 = g0 0 13 := hk
  show Ex (fX6_read_5_2_s61 fu k61 v3 g L) _
  unfold fX6_read_5_2_s61 fX6_read_5_2_p93
  refine Ex.ite (fun _ => Ex.ret ⟨hI, hk⟩) (fun c => ?_)
  have c := icc_nlt (m := 700) (n := v3.toInt) (by decide) rfl c
  refine Ex.ite (fun _ => Ex.ret ⟨hI, hk⟩) (fun _ => Ex.ite (fun _ => Ex.ret ⟨hI, hk⟩) (fun _ => ?_))
  refine Ex.cb (sX6_readLine_5 fu hfu g L hI hJ) (fun _ g20 L21 hq => ?_)
  obtain ⟨hI, hJ, k20⟩ := hq
  generalize hw : v3 + 1 = w
  have ew : w.toInt = v3.toInt + 1 := by rw [← hw]; exact ic_addc rfl (by decide) (by omega) (by omega)
  exact ih (w, g20, L21) ⟨(show 0 ≤ w.toInt ∧ w.toInt ≤ 701 from by omega), hI, hJ, k20.trans hk⟩ (by show 702 - w.toInt < 702 - v3.toInt; omega) (by show 0 < 702 - v3.toInt; omega)
theorem Ex.swp {ρ : Type} {Q : ρ → (Nat → Nat → Int32) → (Nat → Nat → Int64) → Prop} {g : Nat → Nat → Int32} {L : Nat → Nat → Int64} {K : (Nat → Nat → Int32) → (Nat → Nat → Int64) → Option (ρ × zS)} (h : Ex (K (fun k => g (sg k)) (fun k => L (sg k))) Q) : Ex (swp g L K) Q := h
theorem xt_sg (k j : Nat) : XT (sg k) j = XT k j := by
  by_cases h57 : k < 57
  · have h : ∀ k, k < 57 → sg k = k ∨ ((k = 1 ∧ sg k = 2) ∨ (k = 2 ∧ sg k = 1) ∨ (k = 3 ∧ sg k = 4) ∨ (k = 4 ∧ sg k = 3) ∨ (k = 17 ∧ sg k = 18) ∨ (k = 18 ∧ sg k = 17) ∨ (k = 19 ∧ sg k = 22) ∨ (k = 20 ∧ sg k = 23) ∨ (k = 21 ∧ sg k = 24) ∨ (k = 22 ∧ sg k = 19) ∨ (k = 23 ∧ sg k = 20) ∨ (k = 24 ∧ sg k = 21)) := by decide +kernel
    rcases h k h57 with e | e
    · rw [e]
    · rcases e with ⟨rfl, e⟩ | ⟨rfl, e⟩ | ⟨rfl, e⟩ | ⟨rfl, e⟩ | ⟨rfl, e⟩ | ⟨rfl, e⟩ | ⟨rfl, e⟩ | ⟨rfl, e⟩ | ⟨rfl, e⟩ | ⟨rfl, e⟩ | ⟨rfl, e⟩ | ⟨rfl, e⟩ <;> rw [e] <;> rfl
  · by_cases h81 : k < 81
    · have e1 : 57 ≤ sg k ∧ sg k < 81 := by
        by_cases h : k < 69
        · rw [sg_les1 (by omega) h]; omega
        · rw [sg_les2 (by omega) h81]; omega
      unfold XT
      rw [if_neg (by omega), if_pos e1.2, if_neg h57, if_pos h81]
    · have e1 : 81 ≤ sg k := by
        by_cases h : k < 93
        · rw [sg_wai1 (by omega) h]; omega
        · by_cases h2 : k < 105
          · rw [sg_wai2 (by omega) h2]; omega
          · unfold sg; rw [if_neg h57, if_neg (by omega), if_neg h81, if_neg h, if_neg h2]; omega
      rw [xt_wai e1, xt_wai (by omega)]
set_option maxHeartbeats 4000000 in
theorem sX11_house_0 (fu : Nat) (hfu : 1180591620717411303424 ≤ fu) (p1 : Int32) (g0 : Nat → Nat → Int32) (L0 : Nat → Nat → Int64) (hI : zI XT g0) : Ex (fX11_house_0 fu p1 g0 L0) (fun (r : Except String Int32) g1 L1 => zI XT g1 ∧ (∀ E, r = .error E → E = "java/lang/IllegalArgumentException" ∧ g1 0 13 = g0 0 13 ∧ (p1.toInt < 0 ∨ (g0 0 13).toInt < p1.toInt)) ∧ (∀ v, r = .ok v → (g1 0 13).toInt = 0 ∧ 0 ≤ p1.toInt ∧ p1.toInt ≤ (g0 0 13).toInt)) := by
  unfold fX11_house_0 fX11_house_0_p12
  refine Ex.ite (fun c => ?_) (fun c => ?_)
  · have c := icc_lt (m := p1.toInt) (n := 0) rfl (by decide) c
    exact Ex.ret ⟨hI, fun E e => by cases e; exact ⟨rfl, rfl, Or.inl c⟩, fun v e => nomatch e⟩
  have c := icc_nlt (m := p1.toInt) (n := 0) rfl (by decide) c
  refine Ex.ite (fun d => ?_) (fun d => ?_)
  case refine_2 =>
    have d := icc_nle (m := p1.toInt) (n := (g0 0 13).toInt) rfl rfl d
    exact Ex.ret ⟨hI, fun E e => by cases e; exact ⟨rfl, rfl, Or.inr d⟩, fun v e => nomatch e⟩
  have d := icc_le (m := p1.toInt) (n := (g0 0 13).toInt) rfl rfl d
  refine Ex.sti (hI.upd (lo := 0) (hi := 700) rfl (by decide) (by decide)) (fun g3 g3e hI => ?_)
  have k3 : g3 0 13 = 0 := by rw [g3e]; exact upd2_at
  refine Ex.cb (sX6_read_5_2 fu hfu p1 g3 L0 hI c) (fun _ g5 L6 hq => ?_)
  obtain ⟨hI, k5⟩ := hq
  refine Ex.sti (hI.updN rfl) (fun g8 g8e hI => ?_)
  have k8 : g8 0 13 = 0 := by rw [g8e]; exact k5.trans k3
  refine Ex.ite (fun _ => ?_) (fun _ => ?_)
  · refine Ex.swp ?_
    have hI2 : zI XT (fun k => g8 (sg k)) := fun k j lo hi h => hI (sg k) j lo hi ((xt_sg k j).trans h)
    refine Ex.cb (sX3_start_6_1 fu hfu _ _ hI2) (fun _ g13 L14 hq => ?_)
    obtain ⟨hI, k13⟩ := hq
    refine Ex.sti (hI.upd (lo := 0) (hi := 1) rfl (by decide) (by decide)) (fun g16 g16e hI => ?_)
    refine Ex.sti (hI.upd (lo := 0) (hi := 1) rfl (by decide) (by decide)) (fun g17 g17e hI => ?_)
    have k17 : g17 0 13 = 0 := by rw [g17e, g16e]; exact k13.trans k8
    exact Ex.ret ⟨hI, fun E e => (nomatch e), fun v e => ⟨by rw [k17]; decide, c, d⟩⟩
  · refine Ex.ck (by decide) (by decide) (Ex.ck (by decide) (by decide) ?_)
    refine Ex.sti (hI.updN rfl) (fun g18 g18e hI => ?_)
    have k18 : g18 0 13 = 0 := by rw [g18e]; exact k8
    exact Ex.ret ⟨hI, fun E e => (nomatch e), fun v e => ⟨by rw [k18]; decide, c, d⟩⟩
end
