set_option maxHeartbeats 4000000 in
set_option maxRecDepth 100000 in
theorem sX0_findUnsure_11 (fu : Nat) (hfu : 1180591620717411303424 ≤ fu) (p1 : Int32) (g0 : Nat → Nat → Int32) (L0 : Nat → Nat → Int64) (hI : zI XT g0) (hp1 : (0 ≤ (Int32.toInt p1) ∧ (Int32.toInt p1) ≤ 11)) : Ex (fX0_findUnsure_11 fu p1 g0 L0) (fun (r : Unit) (g1 : Nat → Nat → Int32) (L1 : Nat → Nat → Int64) => zI XT g1 ∧ g1 0 13 = g0 0 13) := by
  have k0_0 : g0 0 13 = g0 0 13 := rfl
  unfold fX0_findUnsure_11
  refine Ex.sti (hI.upd rfl (by decide) (by decide)) (fun g1 g1e hI => ?_)
  have k0_0 : g1 0 13 = g0 0 13 := by rw [g1e]; exact k0_0
  have w2 : (Int32.toInt (g1 11 2)) = 0 := by rw [g1e, upd2_at]; decide
  refine Ex.sti (hI.updN rfl) (fun g3 g3e hI => ?_)
  have w4 : (Int32.toInt (g3 11 2)) = (Int32.toInt (g1 11 2)) := by rw [g3e]; rfl
  have k0_0 : g3 0 13 = g0 0 13 := by rw [g3e]; exact k0_0
  refine Ex.stl (fun L5 L5e => ?_)
  have lp17 : ∀ (v1 : Int32) (v2 : Int32) (g : Nat → Nat → Int32) (L : Nat → Nat → Int64), (0 ≤ (Int32.toInt v1) ∧ (Int32.toInt v1) ≤ 11) → (0 ≤ (Int32.toInt v2) ∧ (Int32.toInt v2) ≤ 12) → (0 ≤ (Int32.toInt (g 11 2)) ∧ (Int32.toInt (g 11 2)) ≤ 8) → zI XT g → g 0 13 = g0 0 13 → Ex (fX0_findUnsure_11_l17 fu v1 v2 g L) (fun (r : Unit) (g1 : Nat → Nat → Int32) (L1 : Nat → Nat → Int64) => zI XT g1 ∧ g1 0 13 = g0 0 13) := by
    intro v1 v2 g L hb_v1 hb_v2 hw_11_2 hI k0_0
    unfold fX0_findUnsure_11_l17
    refine Ex.loop (fun v => ((0 ≤ (Int32.toInt v1) ∧ (Int32.toInt v1) ≤ 11)) ∧ ((0 ≤ (Int32.toInt (v.1)) ∧ (Int32.toInt (v.1)) ≤ 12)) ∧ ((0 ≤ (Int32.toInt ((v.2.1) 11 2)) ∧ (Int32.toInt ((v.2.1) 11 2)) ≤ 8)) ∧ (zI XT (v.2.1)) ∧ ((v.2.1) 0 13 = g0 0 13)) (fun v => 13 - (Int32.toInt (v.1))) (by omega) (by show 13 - (Int32.toInt v2) < (fu : Int); omega) ⟨hb_v1, hb_v2, hw_11_2, hI, k0_0⟩ (fun k17 v hv ih17 => ?_)
    obtain ⟨v2, g, L⟩ := v
    obtain ⟨hb_v1, hb_v2, hw_11_2, hI, k0_0⟩ := hv
    have hb_v1 : (0 ≤ (Int32.toInt v1) ∧ (Int32.toInt v1) ≤ 11) := hb_v1
    have hb_v2 : (0 ≤ (Int32.toInt v2) ∧ (Int32.toInt v2) ≤ 12) := hb_v2
    have hw_11_2 : (0 ≤ (Int32.toInt (g 11 2)) ∧ (Int32.toInt (g 11 2)) ≤ 8) := hw_11_2
    have hI : zI XT g := hI
    have k0_0 : g 0 13 = g0 0 13 := k0_0
    have ih17 : ∀ v' : Int32 × (Nat → Nat → Int32) × (Nat → Nat → Int64), (((0 ≤ (Int32.toInt v1) ∧ (Int32.toInt v1) ≤ 11)) ∧ ((0 ≤ (Int32.toInt (v'.1)) ∧ (Int32.toInt (v'.1)) ≤ 12)) ∧ ((0 ≤ (Int32.toInt ((v'.2.1) 11 2)) ∧ (Int32.toInt ((v'.2.1) 11 2)) ≤ 8)) ∧ (zI XT (v'.2.1)) ∧ ((v'.2.1) 0 13 = g0 0 13)) → 13 - (Int32.toInt (v'.1)) < 13 - (Int32.toInt v2) → 0 < 13 - (Int32.toInt v2) → Ex (k17 v') (fun (r : Unit) (g1 : Nat → Nat → Int32) (L1 : Nat → Nat → Int64) => zI XT g1 ∧ g1 0 13 = g0 0 13) := ih17
    show Ex (fX0_findUnsure_11_s17 fu v1 k17 v2 g L) (fun (r : Unit) (g1 : Nat → Nat → Int32) (L1 : Nat → Nat → Int64) => zI XT g1 ∧ g1 0 13 = g0 0 13)
    unfold fX0_findUnsure_11_s17
    refine Ex.ite (fun c6 => ?_) (fun c6 => ?_)
    ·
      have c6 := icc_lt (m := (Int32.toInt v1)) (n := (Int32.toInt v2)) rfl rfl c6
      exact Ex.ret ⟨hI, k0_0⟩
    ·
      have c6 := icc_nlt (m := (Int32.toInt v1)) (n := (Int32.toInt v2)) rfl rfl c6
      refine Ex.ck (by omega) (by omega) ?_
      refine Ex.ltn (fun q7 q7e => ?_)
      have q7b : 57 ≤ q7 ∧ q7 < 69 := by have := Nat.mod_lt (Int32.toNatClampNeg v2) (show 12 > 0 by decide); omega
      refine Ex.lti (fun x8 x8e x8i => ?_)
      have J104 : ∀ (g : Nat → Nat → Int32) (L : Nat → Nat → Int64), (0 ≤ (Int32.toInt v1) ∧ (Int32.toInt v1) ≤ 11) → (0 ≤ (Int32.toInt v2) ∧ (Int32.toInt v2) ≤ 11) → (0 ≤ (Int32.toInt (g 11 2)) ∧ (Int32.toInt (g 11 2)) ≤ 8) → zI XT g → g 0 13 = g0 0 13 → Ex (fX0_findUnsure_11_p104 fu k17 v1 v2 g L) (fun (r : Unit) (g1 : Nat → Nat → Int32) (L1 : Nat → Nat → Int64) => zI XT g1 ∧ g1 0 13 = g0 0 13) := by
        intro g L hb_v1 hb_v2 hw_11_2 hI k0_0
        unfold fX0_findUnsure_11_p104
        generalize z9q : (v2 + 1) = z9
        have e10 : (Int32.toInt z9) = (Int32.toInt v2) + 1 := by rw [← z9q]; exact ic_addc rfl (by decide) (by omega) (by omega)
        exact ih17 (z9, g, L) ⟨(show (0 ≤ (Int32.toInt v1) ∧ (Int32.toInt v1) ≤ 11) from by omega), (show (0 ≤ (Int32.toInt z9) ∧ (Int32.toInt z9) ≤ 12) from by omega), (show (0 ≤ (Int32.toInt (g 11 2)) ∧ (Int32.toInt (g 11 2)) ≤ 8) from by omega), hI, k0_0⟩ (by show 13 - (Int32.toInt z9) < _; omega) (by omega)
      refine Ex.ite (fun c11 => ?_) (fun c11 => ?_)
      ·
        have c11 := icc_eq (m := (Int32.toInt x8)) (n := 0) rfl (by decide) c11
        generalize z12q : ((1 : Int32) <<< ((v2 : Int32) &&& 31) : Int32) = z12
        generalize z13q : ((g 11 3) ||| z12) = z13
        refine Ex.sti (hI.updN rfl) (fun g14 g14e hI => ?_)
        have w15 : (Int32.toInt (g14 11 2)) = (Int32.toInt (g 11 2)) := by rw [g14e]; rfl
        have k0_0 : g14 0 13 = g0 0 13 := by rw [g14e]; exact k0_0
        exact J104 g14 L (by omega) (by omega) (by omega) hI k0_0
      ·
        have c11 := icc_neq (m := (Int32.toInt x8)) (n := 0) rfl (by decide) c11
        refine Ex.ite (fun c16 => ?_) (fun c16 => ?_)
        ·
          have c16 := icc_le (m := 10) (n := (Int32.toInt x8)) (by decide) rfl c16
          exact J104 g L (by omega) (by omega) (by omega) hI k0_0
        ·
          have c16 := icc_nle (m := 10) (n := (Int32.toInt x8)) (by decide) rfl c16
          refine Ex.ite (fun c17 => ?_) (fun c17 => ?_)
          ·
            have c17 := icc_le (m := 8) (n := (Int32.toInt (g 11 2))) (by decide) rfl c17
            exact J104 g L (by omega) (by omega) (by omega) hI k0_0
          ·
            have c17 := icc_nle (m := 8) (n := (Int32.toInt (g 11 2))) (by decide) rfl c17
            refine Ex.ck (by omega) (by omega) ?_
            refine Ex.sti (hI.upd rfl (by omega) (by omega)) (fun g18 g18e hI => ?_)
            have w19 : (Int32.toInt (g18 11 2)) = (Int32.toInt (g 11 2)) := by rw [g18e]; rfl
            have k0_0 : g18 0 13 = g0 0 13 := by rw [g18e]; exact k0_0
            generalize z20q : ((g18 11 2) + 1) = z20
            have e21 : (Int32.toInt z20) = (Int32.toInt (g18 11 2)) + 1 := by rw [← z20q]; exact ic_addc rfl (by decide) (by omega) (by omega)
            refine Ex.sti (hI.upd rfl (by omega) (by omega)) (fun g22 g22e hI => ?_)
            have k0_0 : g22 0 13 = g0 0 13 := by rw [g22e]; exact k0_0
            have w23 : (Int32.toInt (g22 11 2)) = (Int32.toInt z20) := by rw [g22e, upd2_at]
            refine Ex.stl (fun L24 L24e => ?_)
            exact J104 g22 L24 (by omega) (by omega) (by omega) hI k0_0
  exact lp17 p1 0 g3 L5 (by omega) (by decide) (by omega) hI k0_0
set_option maxHeartbeats 4000000 in
set_option maxRecDepth 100000 in
theorem sX0_runWith_11 (fu : Nat) (hfu : 1180591620717411303424 ≤ fu) (p1 : Int32) (p2 : Int32) (g0 : Nat → Nat → Int32) (L0 : Nat → Nat → Int64) (hI : zI XT g0) (hp2 : (0 ≤ (Int32.toInt p2) ∧ (Int32.toInt p2) ≤ 11)) : Ex (fX0_runWith_11 fu p1 p2 g0 L0) (fun (r : Unit) (g1 : Nat → Nat → Int32) (L1 : Nat → Nat → Int64) => zI XT g1 ∧ g1 0 13 = g0 0 13) := by
  have k0_0 : g0 0 13 = g0 0 13 := rfl
  unfold fX0_runWith_11
  generalize z1q : ((g0 11 3) ^^^ (-1)) = z1
  refine Ex.lti (fun x2 x2e x2i => ?_)
  have lp10 : ∀ (v1 : Int32) (v2 : Int32) (v3 : Int32) (v4 : Int32) (g : Nat → Nat → Int32) (L : Nat → Nat → Int64), (0 ≤ (Int32.toInt v2) ∧ (Int32.toInt v2) ≤ 11) → (0 ≤ (Int32.toInt v4) ∧ (Int32.toInt v4) ≤ 8) → zI XT g → g 0 13 = g0 0 13 → Ex (fX0_runWith_11_l10 fu v1 v2 v3 v4 g L) (fun (r : Unit) (g1 : Nat → Nat → Int32) (L1 : Nat → Nat → Int64) => zI XT g1 ∧ g1 0 13 = g0 0 13) := by
    intro v1 v2 v3 v4 g L hb_v2 hb_v4 hI k0_0
    unfold fX0_runWith_11_l10
    refine Ex.loop (fun v => ((0 ≤ (Int32.toInt v2) ∧ (Int32.toInt v2) ≤ 11)) ∧ ((0 ≤ (Int32.toInt (v.2.1)) ∧ (Int32.toInt (v.2.1)) ≤ 8)) ∧ (zI XT (v.2.2.1)) ∧ ((v.2.2.1) 0 13 = g0 0 13)) (fun v => 9 - (Int32.toInt (v.2.1))) (by omega) (by show 9 - (Int32.toInt v4) < (fu : Int); omega) ⟨hb_v2, hb_v4, hI, k0_0⟩ (fun k10 v hv ih10 => ?_)
    obtain ⟨v3, v4, g, L⟩ := v
    obtain ⟨hb_v2, hb_v4, hI, k0_0⟩ := hv
    have hb_v2 : (0 ≤ (Int32.toInt v2) ∧ (Int32.toInt v2) ≤ 11) := hb_v2
    have hb_v4 : (0 ≤ (Int32.toInt v4) ∧ (Int32.toInt v4) ≤ 8) := hb_v4
    have hI : zI XT g := hI
    have k0_0 : g 0 13 = g0 0 13 := k0_0
    have ih10 : ∀ v' : Int32 × Int32 × (Nat → Nat → Int32) × (Nat → Nat → Int64), (((0 ≤ (Int32.toInt v2) ∧ (Int32.toInt v2) ≤ 11)) ∧ ((0 ≤ (Int32.toInt (v'.2.1)) ∧ (Int32.toInt (v'.2.1)) ≤ 8)) ∧ (zI XT (v'.2.2.1)) ∧ ((v'.2.2.1) 0 13 = g0 0 13)) → 9 - (Int32.toInt (v'.2.1)) < 9 - (Int32.toInt v4) → 0 < 9 - (Int32.toInt v4) → Ex (k10 v') (fun (r : Unit) (g1 : Nat → Nat → Int32) (L1 : Nat → Nat → Int64) => zI XT g1 ∧ g1 0 13 = g0 0 13) := ih10
    show Ex (fX0_runWith_11_s10 fu v1 v2 k10 v3 v4 g L) (fun (r : Unit) (g1 : Nat → Nat → Int32) (L1 : Nat → Nat → Int64) => zI XT g1 ∧ g1 0 13 = g0 0 13)
    unfold fX0_runWith_11_s10
    have b3 : 0 ≤ (Int32.toInt (g 11 2)) ∧ (Int32.toInt (g 11 2)) ≤ 8 := hI 11 2 0 8 rfl
    refine Ex.ite (fun c4 => ?_) (fun c4 => ?_)
    ·
      have c4 := icc_le (m := (Int32.toInt (g 11 2))) (n := (Int32.toInt v4)) rfl rfl c4
      refine Ex.sti (hI.updN rfl) (fun g5 g5e hI => ?_)
      have k0_0 : g5 0 13 = g0 0 13 := by rw [g5e]; exact k0_0
      have lp59 : ∀ (v2 : Int32) (v4 : Int32) (g : Nat → Nat → Int32) (L : Nat → Nat → Int64), (0 ≤ (Int32.toInt v2) ∧ (Int32.toInt v2) ≤ 11) → (0 ≤ (Int32.toInt v4) ∧ (Int32.toInt v4) ≤ 12) → zI XT g → g 0 13 = g0 0 13 → Ex (fX0_runWith_11_l59 fu v2 v4 g L) (fun (r : Unit) (g1 : Nat → Nat → Int32) (L1 : Nat → Nat → Int64) => zI XT g1 ∧ g1 0 13 = g0 0 13) := by
        intro v2 v4 g L hb_v2 hb_v4 hI k0_0
        unfold fX0_runWith_11_l59
        refine Ex.loop (fun v => ((0 ≤ (Int32.toInt v2) ∧ (Int32.toInt v2) ≤ 11)) ∧ ((0 ≤ (Int32.toInt (v.1)) ∧ (Int32.toInt (v.1)) ≤ 12)) ∧ (zI XT (v.2.1)) ∧ ((v.2.1) 0 13 = g0 0 13)) (fun v => 13 - (Int32.toInt (v.1))) (by omega) (by show 13 - (Int32.toInt v4) < (fu : Int); omega) ⟨hb_v2, hb_v4, hI, k0_0⟩ (fun k59 v hv ih59 => ?_)
        obtain ⟨v4, g, L⟩ := v
        obtain ⟨hb_v2, hb_v4, hI, k0_0⟩ := hv
        have hb_v2 : (0 ≤ (Int32.toInt v2) ∧ (Int32.toInt v2) ≤ 11) := hb_v2
        have hb_v4 : (0 ≤ (Int32.toInt v4) ∧ (Int32.toInt v4) ≤ 12) := hb_v4
        have hI : zI XT g := hI
        have k0_0 : g 0 13 = g0 0 13 := k0_0
        have ih59 : ∀ v' : Int32 × (Nat → Nat → Int32) × (Nat → Nat → Int64), (((0 ≤ (Int32.toInt v2) ∧ (Int32.toInt v2) ≤ 11)) ∧ ((0 ≤ (Int32.toInt (v'.1)) ∧ (Int32.toInt (v'.1)) ≤ 12)) ∧ (zI XT (v'.2.1)) ∧ ((v'.2.1) 0 13 = g0 0 13)) → 13 - (Int32.toInt (v'.1)) < 13 - (Int32.toInt v4) → 0 < 13 - (Int32.toInt v4) → Ex (k59 v') (fun (r : Unit) (g1 : Nat → Nat → Int32) (L1 : Nat → Nat → Int64) => zI XT g1 ∧ g1 0 13 = g0 0 13) := ih59
        show Ex (fX0_runWith_11_s59 fu v2 k59 v4 g L) (fun (r : Unit) (g1 : Nat → Nat → Int32) (L1 : Nat → Nat → Int64) => zI XT g1 ∧ g1 0 13 = g0 0 13)
        unfold fX0_runWith_11_s59
        refine Ex.ite (fun c6 => ?_) (fun c6 => ?_)
        ·
          have c6 := icc_lt (m := (Int32.toInt v2)) (n := (Int32.toInt v4)) rfl rfl c6
          refine Ex.sti (hI.updN rfl) (fun g7 g7e hI => ?_)
          have k0_0 : g7 0 13 = g0 0 13 := by rw [g7e]; exact k0_0
          exact Ex.ret ⟨hI, k0_0⟩
        ·
          have c6 := icc_nlt (m := (Int32.toInt v2)) (n := (Int32.toInt v4)) rfl rfl c6
          refine Ex.cb (sX1_runOne_8 fu hfu v4 g L hI (by omega)) (fun x8 g9 L10 hq12 => ?_)
          obtain ⟨hI, kk0⟩ := hq12
          have hI : zI XT g9 := hI
          have k0_0 : g9 0 13 = g0 0 13 := kk0.trans k0_0
          generalize z13q : (v4 + 1) = z13
          have e14 : (Int32.toInt z13) = (Int32.toInt v4) + 1 := by rw [← z13q]; exact ic_addc rfl (by decide) (by omega) (by omega)
          exact ih59 (z13, g9, L10) ⟨(show (0 ≤ (Int32.toInt v2) ∧ (Int32.toInt v2) ≤ 11) from by omega), (show (0 ≤ (Int32.toInt z13) ∧ (Int32.toInt z13) ≤ 12) from by omega), hI, k0_0⟩ (by show 13 - (Int32.toInt z13) < _; omega) (by omega)
      exact lp59 v2 0 g5 L (by omega) (by decide) hI k0_0
    ·
      have c4 := icc_nle (m := (Int32.toInt (g 11 2))) (n := (Int32.toInt v4)) rfl rfl c4
      generalize z15q : ((v1 : Int32) >>> ((v4 : Int32) &&& 31) : Int32) = z15
      generalize z16q : (z15 &&& 1) = z16
      have b17 : 0 ≤ (Int32.toInt z16) ∧ (Int32.toInt z16) ≤ 1 := by rw [← z16q]; exact ic_and1 _
      have J42 : ∀ (v3 : Int32) (g : Nat → Nat → Int32) (L : Nat → Nat → Int64), (0 ≤ (Int32.toInt v2) ∧ (Int32.toInt v2) ≤ 11) → (0 ≤ (Int32.toInt v4) ∧ (Int32.toInt v4) ≤ 7) → zI XT g → g 0 13 = g0 0 13 → Ex (fX0_runWith_11_p42 fu k10 v1 v2 v3 v4 g L) (fun (r : Unit) (g1 : Nat → Nat → Int32) (L1 : Nat → Nat → Int64) => zI XT g1 ∧ g1 0 13 = g0 0 13) := by
        intro v3 g L hb_v2 hb_v4 hI k0_0
        unfold fX0_runWith_11_p42
        generalize z18q : (v4 + 1) = z18
        have e19 : (Int32.toInt z18) = (Int32.toInt v4) + 1 := by rw [← z18q]; exact ic_addc rfl (by decide) (by omega) (by omega)
        exact ih10 (v3, z18, g, L) ⟨(show (0 ≤ (Int32.toInt v2) ∧ (Int32.toInt v2) ≤ 11) from by omega), (show (0 ≤ (Int32.toInt z18) ∧ (Int32.toInt z18) ≤ 8) from by omega), hI, k0_0⟩ (by show 9 - (Int32.toInt z18) < _; omega) (by omega)
      refine Ex.ite (fun c20 => ?_) (fun c20 => ?_)
      ·
        have c20 := icc_eq (m := (Int32.toInt z16)) (n := 0) rfl (by decide) c20
        refine Ex.ck (by omega) (by omega) ?_
        have b21 : 0 ≤ (Int32.toInt (g 52 (Int32.toNatClampNeg v4))) ∧ (Int32.toInt (g 52 (Int32.toNatClampNeg v4))) ≤ 11 := hI 52 _ 0 11 rfl
        generalize z22q : ((1 : Int32) <<< (((g 52 (Int32.toNatClampNeg v4)) : Int32) &&& 31) : Int32) = z22
        generalize z23q : (z22 ^^^ (-1)) = z23
        generalize z24q : (v3 &&& z23) = z24
        refine Ex.lti (fun x25 x25e x25i => ?_)
        exact J42 x25 g L (by omega) (by omega) hI k0_0
      ·
        have c20 := icc_neq (m := (Int32.toInt z16)) (n := 0) rfl (by decide) c20
        exact J42 v3 g L (by omega) (by omega) hI k0_0
  exact lp10 p1 p2 x2 0 g0 L0 (by omega) (by decide) hI k0_0
set_option maxHeartbeats 4000000 in
set_option maxRecDepth 100000 in
theorem sX0_weight_11 (fu : Nat) (hfu : 1180591620717411303424 ≤ fu) (p1 : Int32) (g0 : Nat → Nat → Int32) (L0 : Nat → Nat → Int64) (hI : zI XT g0) : Ex (fX0_weight_11 fu p1 g0 L0) (fun (r : Int64) (g1 : Nat → Nat → Int32) (L1 : Nat → Nat → Int64) => zI XT g1 ∧ g1 0 13 = g0 0 13) := by
  have k0_0 : g0 0 13 = g0 0 13 := rfl
  unfold fX0_weight_11
  have lp5 : ∀ (v1 : Int32) (v2 : Int64) (v4 : Int32) (g : Nat → Nat → Int32) (L : Nat → Nat → Int64), (0 ≤ (Int32.toInt v4) ∧ (Int32.toInt v4) ≤ 8) → zI XT g → g 0 13 = g0 0 13 → Ex (fX0_weight_11_l5 fu v1 v2 v4 g L) (fun (r : Int64) (g1 : Nat → Nat → Int32) (L1 : Nat → Nat → Int64) => zI XT g1 ∧ g1 0 13 = g0 0 13) := by
    intro v1 v2 v4 g L hb_v4 hI k0_0
    unfold fX0_weight_11_l5
    refine Ex.loop (fun v => ((0 ≤ (Int32.toInt (v.2.1)) ∧ (Int32.toInt (v.2.1)) ≤ 8)) ∧ (zI XT (v.2.2.1)) ∧ ((v.2.2.1) 0 13 = g0 0 13)) (fun v => 9 - (Int32.toInt (v.2.1))) (by omega) (by show 9 - (Int32.toInt v4) < (fu : Int); omega) ⟨hb_v4, hI, k0_0⟩ (fun k5 v hv ih5 => ?_)
    obtain ⟨v2, v4, g, L⟩ := v
    obtain ⟨hb_v4, hI, k0_0⟩ := hv
    have hb_v4 : (0 ≤ (Int32.toInt v4) ∧ (Int32.toInt v4) ≤ 8) := hb_v4
    have hI : zI XT g := hI
    have k0_0 : g 0 13 = g0 0 13 := k0_0
    have ih5 : ∀ v' : Int64 × Int32 × (Nat → Nat → Int32) × (Nat → Nat → Int64), (((0 ≤ (Int32.toInt (v'.2.1)) ∧ (Int32.toInt (v'.2.1)) ≤ 8)) ∧ (zI XT (v'.2.2.1)) ∧ ((v'.2.2.1) 0 13 = g0 0 13)) → 9 - (Int32.toInt (v'.2.1)) < 9 - (Int32.toInt v4) → 0 < 9 - (Int32.toInt v4) → Ex (k5 v') (fun (r : Int64) (g1 : Nat → Nat → Int32) (L1 : Nat → Nat → Int64) => zI XT g1 ∧ g1 0 13 = g0 0 13) := ih5
    show Ex (fX0_weight_11_s5 fu v1 k5 v2 v4 g L) (fun (r : Int64) (g1 : Nat → Nat → Int32) (L1 : Nat → Nat → Int64) => zI XT g1 ∧ g1 0 13 = g0 0 13)
    unfold fX0_weight_11_s5
    have b1 : 0 ≤ (Int32.toInt (g 11 2)) ∧ (Int32.toInt (g 11 2)) ≤ 8 := hI 11 2 0 8 rfl
    refine Ex.ite (fun c2 => ?_) (fun c2 => ?_)
    ·
      have c2 := icc_le (m := (Int32.toInt (g 11 2))) (n := (Int32.toInt v4)) rfl rfl c2
      exact Ex.ret ⟨hI, k0_0⟩
    ·
      have c2 := icc_nle (m := (Int32.toInt (g 11 2))) (n := (Int32.toInt v4)) rfl rfl c2
      refine Ex.ck (by omega) (by omega) ?_
      have b3 : 0 ≤ (Int32.toInt (g 52 (Int32.toNatClampNeg v4))) ∧ (Int32.toInt (g 52 (Int32.toNatClampNeg v4))) ≤ 11 := hI 52 _ 0 11 rfl
      refine Ex.ck (by omega) (by omega) ?_
      refine Ex.ltn (fun q4 q4e => ?_)
      have q4b : 57 ≤ q4 ∧ q4 < 69 := by have := Nat.mod_lt (Int32.toNatClampNeg (g 52 (Int32.toNatClampNeg v4))) (show 12 > 0 by decide); omega
      refine Ex.lti (fun x5 x5e x5i => ?_)
      generalize z6q : ((v1 : Int32) >>> ((v4 : Int32) &&& 31) : Int32) = z6
      generalize z7q : (z6 &&& 1) = z7
      have b8 : 0 ≤ (Int32.toInt z7) ∧ (Int32.toInt z7) ≤ 1 := by rw [← z7q]; exact ic_and1 _
      have J59 : ∀ (t0 : Int64) (t1 : Int64) (g : Nat → Nat → Int32) (L : Nat → Nat → Int64), (0 ≤ (Int32.toInt v4) ∧ (Int32.toInt v4) ≤ 7) → zI XT g → g 0 13 = g0 0 13 → Ex (fX0_weight_11_p59 fu k5 v1 v4 t0 t1 g L) (fun (r : Int64) (g1 : Nat → Nat → Int32) (L1 : Nat → Nat → Int64) => zI XT g1 ∧ g1 0 13 = g0 0 13) := by
        intro t0 t1 g L hb_v4 hI k0_0
        unfold fX0_weight_11_p59
        refine Ex.ltl (fun y9 y9e => ?_)
        generalize z10q : (v4 + 1) = z10
        have e11 : (Int32.toInt z10) = (Int32.toInt v4) + 1 := by rw [← z10q]; exact ic_addc rfl (by decide) (by omega) (by omega)
        exact ih5 (y9, z10, g, L) ⟨(show (0 ≤ (Int32.toInt z10) ∧ (Int32.toInt z10) ≤ 8) from by omega), hI, k0_0⟩ (by show 9 - (Int32.toInt z10) < _; omega) (by omega)
      refine Ex.ite (fun c12 => ?_) (fun c12 => ?_)
      ·
        have c12 := icc_eq (m := (Int32.toInt z7)) (n := 0) rfl (by decide) c12
        generalize z13q : (10 - x5) = z13
        exact J59 (Int32.toInt64 z13) v2 g L (by omega) hI k0_0
      ·
        have c12 := icc_neq (m := (Int32.toInt z7)) (n := 0) rfl (by decide) c12
        exact J59 (Int32.toInt64 x5) v2 g L (by omega) hI k0_0
  exact lp5 p1 1 0 g0 L0 (by decide) hI k0_0
set_option maxHeartbeats 4000000 in
set_option maxRecDepth 100000 in
theorem sX0_reduce_11 (fu : Nat) (hfu : 1180591620717411303424 ≤ fu) (g0 : Nat → Nat → Int32) (L0 : Nat → Nat → Int64) (hI : zI XT g0) : Ex (fX0_reduce_11 fu g0 L0) (fun (r : Unit) (g1 : Nat → Nat → Int32) (L1 : Nat → Nat → Int64) => zI XT g1 ∧ g1 0 13 = g0 0 13) := by
  have k0_0 : g0 0 13 = g0 0 13 := rfl
  unfold fX0_reduce_11
  refine Ex.ltl (fun y1 y1e => ?_)
  refine Ex.ltl (fun y2 y2e => ?_)
  have lp13 : ∀ (v1 : Int64) (v3 : Int64) (v5 : Int32) (g : Nat → Nat → Int32) (L : Nat → Nat → Int64), (0 ≤ (Int32.toInt v5) ∧ (Int32.toInt v5) ≤ 200) → zI XT g → g 0 13 = g0 0 13 → Ex (fX0_reduce_11_l13 fu v1 v3 v5 g L) (fun (r : Unit) (g1 : Nat → Nat → Int32) (L1 : Nat → Nat → Int64) => zI XT g1 ∧ g1 0 13 = g0 0 13) := by
    intro v1 v3 v5 g L hb_v5 hI k0_0
    unfold fX0_reduce_11_l13
    refine Ex.loop (fun v => ((0 ≤ (Int32.toInt (v.2.2.1)) ∧ (Int32.toInt (v.2.2.1)) ≤ 200)) ∧ (zI XT (v.2.2.2.1)) ∧ ((v.2.2.2.1) 0 13 = g0 0 13)) (fun v => 201 - (Int32.toInt (v.2.2.1))) (by omega) (by show 201 - (Int32.toInt v5) < (fu : Int); omega) ⟨hb_v5, hI, k0_0⟩ (fun k13 v hv ih13 => ?_)
    obtain ⟨v1, v3, v5, g, L⟩ := v
    obtain ⟨hb_v5, hI, k0_0⟩ := hv
    have hb_v5 : (0 ≤ (Int32.toInt v5) ∧ (Int32.toInt v5) ≤ 200) := hb_v5
    have hI : zI XT g := hI
    have k0_0 : g 0 13 = g0 0 13 := k0_0
    have ih13 : ∀ v' : Int64 × Int64 × Int32 × (Nat → Nat → Int32) × (Nat → Nat → Int64), (((0 ≤ (Int32.toInt (v'.2.2.1)) ∧ (Int32.toInt (v'.2.2.1)) ≤ 200)) ∧ (zI XT (v'.2.2.2.1)) ∧ ((v'.2.2.2.1) 0 13 = g0 0 13)) → 201 - (Int32.toInt (v'.2.2.1)) < 201 - (Int32.toInt v5) → 0 < 201 - (Int32.toInt v5) → Ex (k13 v') (fun (r : Unit) (g1 : Nat → Nat → Int32) (L1 : Nat → Nat → Int64) => zI XT g1 ∧ g1 0 13 = g0 0 13) := ih13
    show Ex (fX0_reduce_11_s13 fu k13 v1 v3 v5 g L) (fun (r : Unit) (g1 : Nat → Nat → Int32) (L1 : Nat → Nat → Int64) => zI XT g1 ∧ g1 0 13 = g0 0 13)
    unfold fX0_reduce_11_s13
    have J43 : ∀ (v1 : Int64) (g : Nat → Nat → Int32) (L : Nat → Nat → Int64), zI XT g → g 0 13 = g0 0 13 → Ex (fX0_reduce_11_p43 fu v1 g L) (fun (r : Unit) (g1 : Nat → Nat → Int32) (L1 : Nat → Nat → Int64) => zI XT g1 ∧ g1 0 13 = g0 0 13) := by
      intro v1 g L hI k0_0
      unfold fX0_reduce_11_p43
      have J69 : ∀ (g : Nat → Nat → Int32) (L : Nat → Nat → Int64), zI XT g → g 0 13 = g0 0 13 → Ex (fX0_reduce_11_p69 fu g L) (fun (r : Unit) (g1 : Nat → Nat → Int32) (L1 : Nat → Nat → Int64) => zI XT g1 ∧ g1 0 13 = g0 0 13) := by
        intro g L hI k0_0
        unfold fX0_reduce_11_p69
        exact Ex.ret ⟨hI, k0_0⟩
      refine Ex.ite (fun c3 => ?_) (fun c3 => ?_)
      ·
        have c3 := icc_le (m := (Int32.toInt (lg_cmp v1 1))) (n := 0) rfl (by decide) c3
        exact J69 g L hI k0_0
      ·
        have c3 := icc_nle (m := (Int32.toInt (lg_cmp v1 1))) (n := 0) rfl (by decide) c3
        have nz5 : ¬ v1 = 0 := fun q_ => absurd c3 (by rw [q_]; decide)
        refine Ex.cnzL (by assumption) ?_
        refine Ex.stl (fun L6 L6e => ?_)
        refine Ex.cnzL (by assumption) ?_
        refine Ex.stl (fun L7 L7e => ?_)
        exact J69 g L7 hI k0_0
    refine Ex.ite (fun c8 => ?_) (fun c8 => ?_)
    ·
      have c8 := icc_le (m := 200) (n := (Int32.toInt v5)) (by decide) rfl c8
      exact J43 v1 g L hI k0_0
    ·
      have c8 := icc_nle (m := 200) (n := (Int32.toInt v5)) (by decide) rfl c8
      refine Ex.ite (fun c9 => ?_) (fun c9 => ?_)
      ·
        have c9 := icc_eq (m := (Int32.toInt (lg_cmp v3 0))) (n := 0) rfl (by decide) c9
        exact J43 v1 g L hI k0_0
      ·
        have c9 := icc_neq (m := (Int32.toInt (lg_cmp v3 0))) (n := 0) rfl (by decide) c9
        have nz11 : ¬ v3 = 0 := fun q_ => c9 (by rw [q_, k_lcmp]; decide)
        refine Ex.cnzL (by assumption) ?_
        refine Ex.ltl (fun y12 y12e => ?_)
        generalize z13q : (v5 + 1) = z13
        have e14 : (Int32.toInt z13) = (Int32.toInt v5) + 1 := by rw [← z13q]; exact ic_addc rfl (by decide) (by omega) (by omega)
        exact ih13 (v3, y12, z13, g, L) ⟨(show (0 ≤ (Int32.toInt z13) ∧ (Int32.toInt z13) ≤ 200) from by omega), hI, k0_0⟩ (by show 201 - (Int32.toInt z13) < _; omega) (by omega)
  exact lp13 y1 y2 0 g0 L0 (by decide) hI k0_0
set_option maxHeartbeats 4000000 in
set_option maxRecDepth 100000 in
theorem sX0_ofLate_11 (fu : Nat) (hfu : 1180591620717411303424 ≤ fu) (p1 : Int32) (p2 : Int32) (g0 : Nat → Nat → Int32) (L0 : Nat → Nat → Int64) (hI : zI XT g0) (hp1 : (0 ≤ (Int32.toInt p1) ∧ (Int32.toInt p1) ≤ 11)) : Ex (fX0_ofLate_11 fu p1 p2 g0 L0) (fun (r : Unit) (g1 : Nat → Nat → Int32) (L1 : Nat → Nat → Int64) => zI XT g1 ∧ g1 0 13 = g0 0 13) := by
  have k0_0 : g0 0 13 = g0 0 13 := rfl
  unfold fX0_ofLate_11
  refine Ex.cb (sX0_findUnsure_11 fu hfu p1 g0 L0 hI (by omega)) (fun x1 g2 L3 hq5 => ?_)
  obtain ⟨hI, kk0⟩ := hq5
  have hI : zI XT g2 := hI
  have k0_0 : g2 0 13 = g0 0 13 := kk0.trans k0_0
  refine Ex.stl (fun L6 L6e => ?_)
  have lp12 : ∀ (v1 : Int32) (v2 : Int32) (v3 : Int32) (g : Nat → Nat → Int32) (L : Nat → Nat → Int64), (0 ≤ (Int32.toInt v1) ∧ (Int32.toInt v1) ≤ 11) → (0 ≤ (Int32.toInt v3) ∧ (Int32.toInt v3) ≤ 256) → zI XT g → g 0 13 = g0 0 13 → Ex (fX0_ofLate_11_l12 fu v1 v2 v3 g L) (fun (r : Unit) (g1 : Nat → Nat → Int32) (L1 : Nat → Nat → Int64) => zI XT g1 ∧ g1 0 13 = g0 0 13) := by
    intro v1 v2 v3 g L hb_v1 hb_v3 hI k0_0
    unfold fX0_ofLate_11_l12
    refine Ex.loop (fun v => ((0 ≤ (Int32.toInt v1) ∧ (Int32.toInt v1) ≤ 11)) ∧ ((0 ≤ (Int32.toInt (v.1)) ∧ (Int32.toInt (v.1)) ≤ 256)) ∧ (zI XT (v.2.1)) ∧ ((v.2.1) 0 13 = g0 0 13)) (fun v => 257 - (Int32.toInt (v.1))) (by omega) (by show 257 - (Int32.toInt v3) < (fu : Int); omega) ⟨hb_v1, hb_v3, hI, k0_0⟩ (fun k12 v hv ih12 => ?_)
    obtain ⟨v3, g, L⟩ := v
    obtain ⟨hb_v1, hb_v3, hI, k0_0⟩ := hv
    have hb_v1 : (0 ≤ (Int32.toInt v1) ∧ (Int32.toInt v1) ≤ 11) := hb_v1
    have hb_v3 : (0 ≤ (Int32.toInt v3) ∧ (Int32.toInt v3) ≤ 256) := hb_v3
    have hI : zI XT g := hI
    have k0_0 : g 0 13 = g0 0 13 := k0_0
    have ih12 : ∀ v' : Int32 × (Nat → Nat → Int32) × (Nat → Nat → Int64), (((0 ≤ (Int32.toInt v1) ∧ (Int32.toInt v1) ≤ 11)) ∧ ((0 ≤ (Int32.toInt (v'.1)) ∧ (Int32.toInt (v'.1)) ≤ 256)) ∧ (zI XT (v'.2.1)) ∧ ((v'.2.1) 0 13 = g0 0 13)) → 257 - (Int32.toInt (v'.1)) < 257 - (Int32.toInt v3) → 0 < 257 - (Int32.toInt v3) → Ex (k12 v') (fun (r : Unit) (g1 : Nat → Nat → Int32) (L1 : Nat → Nat → Int64) => zI XT g1 ∧ g1 0 13 = g0 0 13) := ih12
    show Ex (fX0_ofLate_11_s12 fu v1 v2 k12 v3 g L) (fun (r : Unit) (g1 : Nat → Nat → Int32) (L1 : Nat → Nat → Int64) => zI XT g1 ∧ g1 0 13 = g0 0 13)
    unfold fX0_ofLate_11_s12
    have b7 : 0 ≤ (Int32.toInt (g 11 2)) ∧ (Int32.toInt (g 11 2)) ≤ 8 := hI 11 2 0 8 rfl
    generalize z8q : ((1 : Int32) <<< (((g 11 2) : Int32) &&& 31) : Int32) = z8
    have b9 : 1 ≤ (Int32.toInt z8) ∧ (Int32.toInt z8) ≤ 256 := by rw [← z8q]; exact ic_shl1 (by omega) (by omega)
    refine Ex.ite (fun c10 => ?_) (fun c10 => ?_)
    ·
      have c10 := icc_le (m := (Int32.toInt z8)) (n := (Int32.toInt v3)) rfl rfl c10
      refine Ex.cb (sX0_reduce_11 fu hfu g L hI) (fun x11 g12 L13 hq15 => ?_)
      obtain ⟨hI, kk0⟩ := hq15
      have hI : zI XT g12 := hI
      have k0_0 : g12 0 13 = g0 0 13 := kk0.trans k0_0
      exact Ex.ret ⟨hI, k0_0⟩
    ·
      have c10 := icc_nle (m := (Int32.toInt z8)) (n := (Int32.toInt v3)) rfl rfl c10
      refine Ex.cb (sX0_runWith_11 fu hfu v3 v1 g L hI (by omega)) (fun x16 g17 L18 hq20 => ?_)
      obtain ⟨hI, kk0⟩ := hq20
      have hI : zI XT g17 := hI
      have k0_0 : g17 0 13 = g0 0 13 := kk0.trans k0_0
      refine Ex.cb (sX1_late_8 fu hfu v1 g17 L18 hI (by omega)) (fun x21 g22 L23 hq25 => ?_)
      obtain ⟨hI, kk0⟩ := hq25
      have hI : zI XT g22 := hI
      have k0_0 : g22 0 13 = g0 0 13 := kk0.trans k0_0
      have J54 : ∀ (g : Nat → Nat → Int32) (L : Nat → Nat → Int64), (0 ≤ (Int32.toInt v1) ∧ (Int32.toInt v1) ≤ 11) → (0 ≤ (Int32.toInt v3) ∧ (Int32.toInt v3) ≤ 255) → zI XT g → g 0 13 = g0 0 13 → Ex (fX0_ofLate_11_p54 fu k12 v1 v2 v3 g L) (fun (r : Unit) (g1 : Nat → Nat → Int32) (L1 : Nat → Nat → Int64) => zI XT g1 ∧ g1 0 13 = g0 0 13) := by
        intro g L hb_v1 hb_v3 hI k0_0
        unfold fX0_ofLate_11_p54
        generalize z26q : (v3 + 1) = z26
        have e27 : (Int32.toInt z26) = (Int32.toInt v3) + 1 := by rw [← z26q]; exact ic_addc rfl (by decide) (by omega) (by omega)
        exact ih12 (z26, g, L) ⟨(show (0 ≤ (Int32.toInt v1) ∧ (Int32.toInt v1) ≤ 11) from by omega), (show (0 ≤ (Int32.toInt z26) ∧ (Int32.toInt z26) ≤ 256) from by omega), hI, k0_0⟩ (by show 257 - (Int32.toInt z26) < _; omega) (by omega)
      refine Ex.ite (fun c28 => ?_) (fun c28 => ?_)
      ·
        have c28 := icc_le (m := (Int32.toInt x21)) (n := (Int32.toInt v2)) rfl rfl c28
        exact J54 g22 L23 (by omega) (by omega) hI k0_0
      ·
        have c28 := icc_nle (m := (Int32.toInt x21)) (n := (Int32.toInt v2)) rfl rfl c28
        refine Ex.cb (sX0_weight_11 fu hfu v3 g22 L23 hI) (fun x29 g30 L31 hq33 => ?_)
        obtain ⟨hI, kk0⟩ := hq33
        have hI : zI XT g30 := hI
        have k0_0 : g30 0 13 = g0 0 13 := kk0.trans k0_0
        refine Ex.stl (fun L34 L34e => ?_)
        exact J54 g30 L34 (by omega) (by omega) hI k0_0
  exact lp12 p1 p2 0 g2 L6 (by omega) (by decide) hI k0_0
set_option maxHeartbeats 4000000 in
set_option maxRecDepth 100000 in
theorem sX0_meanLate_11 (fu : Nat) (hfu : 1180591620717411303424 ≤ fu) (p1 : Int32) (g0 : Nat → Nat → Int32) (L0 : Nat → Nat → Int64) (hI : zI XT g0) (hp1 : (0 ≤ (Int32.toInt p1) ∧ (Int32.toInt p1) ≤ 11)) : Ex (fX0_meanLate_11 fu p1 g0 L0) (fun (r : Unit) (g1 : Nat → Nat → Int32) (L1 : Nat → Nat → Int64) => zI XT g1 ∧ g1 0 13 = g0 0 13) := by
  have k0_0 : g0 0 13 = g0 0 13 := rfl
  unfold fX0_meanLate_11
  refine Ex.cb (sX0_findUnsure_11 fu hfu p1 g0 L0 hI (by omega)) (fun x1 g2 L3 hq5 => ?_)
  obtain ⟨hI, kk0⟩ := hq5
  have hI : zI XT g2 := hI
  have k0_0 : g2 0 13 = g0 0 13 := kk0.trans k0_0
  refine Ex.stl (fun L6 L6e => ?_)
  have lp12 : ∀ (v1 : Int32) (v2 : Int32) (g : Nat → Nat → Int32) (L : Nat → Nat → Int64), (0 ≤ (Int32.toInt v1) ∧ (Int32.toInt v1) ≤ 11) → (0 ≤ (Int32.toInt v2) ∧ (Int32.toInt v2) ≤ 256) → zI XT g → g 0 13 = g0 0 13 → Ex (fX0_meanLate_11_l12 fu v1 v2 g L) (fun (r : Unit) (g1 : Nat → Nat → Int32) (L1 : Nat → Nat → Int64) => zI XT g1 ∧ g1 0 13 = g0 0 13) := by
    intro v1 v2 g L hb_v1 hb_v2 hI k0_0
    unfold fX0_meanLate_11_l12
    refine Ex.loop (fun v => ((0 ≤ (Int32.toInt v1) ∧ (Int32.toInt v1) ≤ 11)) ∧ ((0 ≤ (Int32.toInt (v.1)) ∧ (Int32.toInt (v.1)) ≤ 256)) ∧ (zI XT (v.2.1)) ∧ ((v.2.1) 0 13 = g0 0 13)) (fun v => 257 - (Int32.toInt (v.1))) (by omega) (by show 257 - (Int32.toInt v2) < (fu : Int); omega) ⟨hb_v1, hb_v2, hI, k0_0⟩ (fun k12 v hv ih12 => ?_)
    obtain ⟨v2, g, L⟩ := v
    obtain ⟨hb_v1, hb_v2, hI, k0_0⟩ := hv
    have hb_v1 : (0 ≤ (Int32.toInt v1) ∧ (Int32.toInt v1) ≤ 11) := hb_v1
    have hb_v2 : (0 ≤ (Int32.toInt v2) ∧ (Int32.toInt v2) ≤ 256) := hb_v2
    have hI : zI XT g := hI
    have k0_0 : g 0 13 = g0 0 13 := k0_0
    have ih12 : ∀ v' : Int32 × (Nat → Nat → Int32) × (Nat → Nat → Int64), (((0 ≤ (Int32.toInt v1) ∧ (Int32.toInt v1) ≤ 11)) ∧ ((0 ≤ (Int32.toInt (v'.1)) ∧ (Int32.toInt (v'.1)) ≤ 256)) ∧ (zI XT (v'.2.1)) ∧ ((v'.2.1) 0 13 = g0 0 13)) → 257 - (Int32.toInt (v'.1)) < 257 - (Int32.toInt v2) → 0 < 257 - (Int32.toInt v2) → Ex (k12 v') (fun (r : Unit) (g1 : Nat → Nat → Int32) (L1 : Nat → Nat → Int64) => zI XT g1 ∧ g1 0 13 = g0 0 13) := ih12
    show Ex (fX0_meanLate_11_s12 fu v1 k12 v2 g L) (fun (r : Unit) (g1 : Nat → Nat → Int32) (L1 : Nat → Nat → Int64) => zI XT g1 ∧ g1 0 13 = g0 0 13)
    unfold fX0_meanLate_11_s12
    have b7 : 0 ≤ (Int32.toInt (g 11 2)) ∧ (Int32.toInt (g 11 2)) ≤ 8 := hI 11 2 0 8 rfl
    generalize z8q : ((1 : Int32) <<< (((g 11 2) : Int32) &&& 31) : Int32) = z8
    have b9 : 1 ≤ (Int32.toInt z8) ∧ (Int32.toInt z8) ≤ 256 := by rw [← z8q]; exact ic_shl1 (by omega) (by omega)
    refine Ex.ite (fun c10 => ?_) (fun c10 => ?_)
    ·
      have c10 := icc_le (m := (Int32.toInt z8)) (n := (Int32.toInt v2)) rfl rfl c10
      refine Ex.cb (sX0_reduce_11 fu hfu g L hI) (fun x11 g12 L13 hq15 => ?_)
      obtain ⟨hI, kk0⟩ := hq15
      have hI : zI XT g12 := hI
      have k0_0 : g12 0 13 = g0 0 13 := kk0.trans k0_0
      exact Ex.ret ⟨hI, k0_0⟩
    ·
      have c10 := icc_nle (m := (Int32.toInt z8)) (n := (Int32.toInt v2)) rfl rfl c10
      refine Ex.cb (sX0_runWith_11 fu hfu v2 v1 g L hI (by omega)) (fun x16 g17 L18 hq20 => ?_)
      obtain ⟨hI, kk0⟩ := hq20
      have hI : zI XT g17 := hI
      have k0_0 : g17 0 13 = g0 0 13 := kk0.trans k0_0
      refine Ex.cb (sX0_weight_11 fu hfu v2 g17 L18 hI) (fun x21 g22 L23 hq25 => ?_)
      obtain ⟨hI, kk0⟩ := hq25
      have hI : zI XT g22 := hI
      have k0_0 : g22 0 13 = g0 0 13 := kk0.trans k0_0
      refine Ex.cb (sX1_late_8 fu hfu v1 g22 L23 hI (by omega)) (fun x26 g27 L28 hq30 => ?_)
      obtain ⟨hI, kk0⟩ := hq30
      have hI : zI XT g27 := hI
      have k0_0 : g27 0 13 = g0 0 13 := kk0.trans k0_0
      refine Ex.stl (fun L31 L31e => ?_)
      generalize z32q : (v2 + 1) = z32
      have e33 : (Int32.toInt z32) = (Int32.toInt v2) + 1 := by rw [← z32q]; exact ic_addc rfl (by decide) (by omega) (by omega)
      exact ih12 (z32, g27, L31) ⟨(show (0 ≤ (Int32.toInt v1) ∧ (Int32.toInt v1) ≤ 11) from by omega), (show (0 ≤ (Int32.toInt z32) ∧ (Int32.toInt z32) ≤ 256) from by omega), hI, k0_0⟩ (by show 257 - (Int32.toInt z32) < _; omega) (by omega)
  exact lp12 p1 0 g2 L6 (by omega) (by decide) hI k0_0
set_option maxHeartbeats 4000000 in
set_option maxRecDepth 100000 in
theorem sX0_drawOfTen_11 (fu : Nat) (hfu : 1180591620717411303424 ≤ fu) (g0 : Nat → Nat → Int32) (L0 : Nat → Nat → Int64) (hI : zI XT g0) : Ex (fX0_drawOfTen_11 fu g0 L0) (fun (r : Int32) (g1 : Nat → Nat → Int32) (L1 : Nat → Nat → Int64) => zI XT g1 ∧ g1 0 13 = g0 0 13) := by
  have k0_0 : g0 0 13 = g0 0 13 := rfl
  unfold fX0_drawOfTen_11
  generalize z1q : ((g0 11 4) * 1103515245) = z1
  generalize z2q : (z1 + 12345) = z2
  refine Ex.sti (hI.updN rfl) (fun g3 g3e hI => ?_)
  have k0_0 : g3 0 13 = g0 0 13 := by rw [g3e]; exact k0_0
  generalize z4q : (Int32.toUInt32 (g3 11 4) >>> (Int32.toUInt32 16 &&& Int32.toUInt32 31)).toInt32 = z4
  generalize z5q : (z4 &&& 32767) = z5
  have b6 : 0 ≤ (Int32.toInt z5) ∧ (Int32.toInt z5) ≤ 32767 := by rw [← z5q]; exact ic_and32767 _
  refine Ex.cnz (by decide) ?_
  generalize z7q : (z5 - z5 / 10 * 10) = z7
  exact Ex.ret ⟨hI, k0_0⟩
set_option maxHeartbeats 4000000 in
set_option maxRecDepth 100000 in
theorem sX0_drawRunning_11 (fu : Nat) (hfu : 1180591620717411303424 ≤ fu) (g0 : Nat → Nat → Int32) (L0 : Nat → Nat → Int64) (hI : zI XT g0) : Ex (fX0_drawRunning_11 fu g0 L0) (fun (r : Int32) (g1 : Nat → Nat → Int32) (L1 : Nat → Nat → Int64) => zI XT g1 ∧ g1 0 13 = g0 0 13) := by
  have k0_0 : g0 0 13 = g0 0 13 := rfl
  unfold fX0_drawRunning_11
  have lp4 : ∀ (v1 : Int32) (v2 : Int32) (g : Nat → Nat → Int32) (L : Nat → Nat → Int64), (0 ≤ (Int32.toInt v2) ∧ (Int32.toInt v2) ≤ 12) → zI XT g → g 0 13 = g0 0 13 → Ex (fX0_drawRunning_11_l4 fu v1 v2 g L) (fun (r : Int32) (g1 : Nat → Nat → Int32) (L1 : Nat → Nat → Int64) => zI XT g1 ∧ g1 0 13 = g0 0 13) := by
    intro v1 v2 g L hb_v2 hI k0_0
    unfold fX0_drawRunning_11_l4
    refine Ex.loop (fun v => ((0 ≤ (Int32.toInt (v.2.1)) ∧ (Int32.toInt (v.2.1)) ≤ 12)) ∧ (zI XT (v.2.2.1)) ∧ ((v.2.2.1) 0 13 = g0 0 13)) (fun v => 13 - (Int32.toInt (v.2.1))) (by omega) (by show 13 - (Int32.toInt v2) < (fu : Int); omega) ⟨hb_v2, hI, k0_0⟩ (fun k4 v hv ih4 => ?_)
    obtain ⟨v1, v2, g, L⟩ := v
    obtain ⟨hb_v2, hI, k0_0⟩ := hv
    have hb_v2 : (0 ≤ (Int32.toInt v2) ∧ (Int32.toInt v2) ≤ 12) := hb_v2
    have hI : zI XT g := hI
    have k0_0 : g 0 13 = g0 0 13 := k0_0
    have ih4 : ∀ v' : Int32 × Int32 × (Nat → Nat → Int32) × (Nat → Nat → Int64), (((0 ≤ (Int32.toInt (v'.2.1)) ∧ (Int32.toInt (v'.2.1)) ≤ 12)) ∧ (zI XT (v'.2.2.1)) ∧ ((v'.2.2.1) 0 13 = g0 0 13)) → 13 - (Int32.toInt (v'.2.1)) < 13 - (Int32.toInt v2) → 0 < 13 - (Int32.toInt v2) → Ex (k4 v') (fun (r : Int32) (g1 : Nat → Nat → Int32) (L1 : Nat → Nat → Int64) => zI XT g1 ∧ g1 0 13 = g0 0 13) := ih4
    show Ex (fX0_drawRunning_11_s4 fu k4 v1 v2 g L) (fun (r : Int32) (g1 : Nat → Nat → Int32) (L1 : Nat → Nat → Int64) => zI XT g1 ∧ g1 0 13 = g0 0 13)
    unfold fX0_drawRunning_11_s4
    have b1 : 0 ≤ (Int32.toInt (g 1 2)) ∧ (Int32.toInt (g 1 2)) ≤ 12 := hI 1 2 0 12 rfl
    refine Ex.ite (fun c2 => ?_) (fun c2 => ?_)
    ·
      have c2 := icc_le (m := (Int32.toInt (g 1 2))) (n := (Int32.toInt v2)) rfl rfl c2
      exact Ex.ret ⟨hI, k0_0⟩
    ·
      have c2 := icc_nle (m := (Int32.toInt (g 1 2))) (n := (Int32.toInt v2)) rfl rfl c2
      refine Ex.ck (by omega) (by omega) ?_
      refine Ex.ltn (fun q3 q3e => ?_)
      have q3b : 57 ≤ q3 ∧ q3 < 69 := by have := Nat.mod_lt (Int32.toNatClampNeg v2) (show 12 > 0 by decide); omega
      refine Ex.lti (fun x4 x4e x4i => ?_)
      have J54 : ∀ (v1 : Int32) (g : Nat → Nat → Int32) (L : Nat → Nat → Int64), (0 ≤ (Int32.toInt v2) ∧ (Int32.toInt v2) ≤ 11) → zI XT g → g 0 13 = g0 0 13 → Ex (fX0_drawRunning_11_p54 fu k4 v1 v2 g L) (fun (r : Int32) (g1 : Nat → Nat → Int32) (L1 : Nat → Nat → Int64) => zI XT g1 ∧ g1 0 13 = g0 0 13) := by
        intro v1 g L hb_v2 hI k0_0
        unfold fX0_drawRunning_11_p54
        generalize z5q : (v2 + 1) = z5
        have e6 : (Int32.toInt z5) = (Int32.toInt v2) + 1 := by rw [← z5q]; exact ic_addc rfl (by decide) (by omega) (by omega)
        exact ih4 (v1, z5, g, L) ⟨(show (0 ≤ (Int32.toInt z5) ∧ (Int32.toInt z5) ≤ 12) from by omega), hI, k0_0⟩ (by show 13 - (Int32.toInt z5) < _; omega) (by omega)
      have J48 : ∀ (g : Nat → Nat → Int32) (L : Nat → Nat → Int64), (0 ≤ (Int32.toInt v2) ∧ (Int32.toInt v2) ≤ 11) → zI XT g → g 0 13 = g0 0 13 → Ex (fX0_drawRunning_11_p48 fu k4 v1 v2 g L) (fun (r : Int32) (g1 : Nat → Nat → Int32) (L1 : Nat → Nat → Int64) => zI XT g1 ∧ g1 0 13 = g0 0 13) := by
        intro g L hb_v2 hI k0_0
        unfold fX0_drawRunning_11_p48
        generalize z7q : ((1 : Int32) <<< ((v2 : Int32) &&& 31) : Int32) = z7
        generalize z8q : (v1 ||| z7) = z8
        refine Ex.lti (fun x9 x9e x9i => ?_)
        exact J54 x9 g L (by omega) hI k0_0
      refine Ex.ite (fun c10 => ?_) (fun c10 => ?_)
      ·
        have c10 := icc_eq (m := (Int32.toInt x4)) (n := 10) rfl (by decide) c10
        exact J48 g L (by omega) hI k0_0
      ·
        have c10 := icc_neq (m := (Int32.toInt x4)) (n := 10) rfl (by decide) c10
        refine Ex.cb (sX0_drawOfTen_11 fu hfu g L hI) (fun x11 g12 L13 hq15 => ?_)
        obtain ⟨hI, kk0⟩ := hq15
        have hI : zI XT g12 := hI
        have k0_0 : g12 0 13 = g0 0 13 := kk0.trans k0_0
        refine Ex.ite (fun c16 => ?_) (fun c16 => ?_)
        ·
          have c16 := icc_le (m := (Int32.toInt x4)) (n := (Int32.toInt x11)) rfl rfl c16
          exact J54 v1 g12 L13 (by omega) hI k0_0
        ·
          have c16 := icc_nle (m := (Int32.toInt x4)) (n := (Int32.toInt x11)) rfl rfl c16
          exact J48 g12 L13 (by omega) hI k0_0
  exact lp4 0 0 g0 L0 (by decide) hI k0_0
set_option maxHeartbeats 4000000 in
set_option maxRecDepth 100000 in
theorem sX0_ofTerm_11 (fu : Nat) (hfu : 1180591620717411303424 ≤ fu) (p1 : Int32) (p2 : Int32) (p3 : Int32) (p4 : Int32) (g0 : Nat → Nat → Int32) (L0 : Nat → Nat → Int64) (hI : zI XT g0) (hp2 : (0 ≤ (Int32.toInt p2) ∧ (Int32.toInt p2) ≤ 60)) (hp3 : (0 ≤ (Int32.toInt p3) ∧ (Int32.toInt p3) ≤ 11)) : Ex (fX0_ofTerm_11 fu p1 p2 p3 p4 g0 L0) (fun (r : Int32) (g1 : Nat → Nat → Int32) (L1 : Nat → Nat → Int64) => zI XT g1 ∧ g1 0 13 = g0 0 13) := by
  have k0_0 : g0 0 13 = g0 0 13 := rfl
  unfold fX0_ofTerm_11
  refine Ex.sti (hI.updN rfl) (fun g1 g1e hI => ?_)
  have k0_0 : g1 0 13 = g0 0 13 := by rw [g1e]; exact k0_0
  have lp17 : ∀ (v2 : Int32) (v3 : Int32) (v4 : Int32) (v5 : Int32) (v6 : Int32) (v7 : Int32) (v8 : Int32) (g : Nat → Nat → Int32) (L : Nat → Nat → Int64), (0 ≤ (Int32.toInt v2) ∧ (Int32.toInt v2) ≤ 60) → (0 ≤ (Int32.toInt v3) ∧ (Int32.toInt v3) ≤ 11) → (0 ≤ (Int32.toInt v6)) → (0 ≤ (Int32.toInt v8) ∧ (Int32.toInt v8) ≤ 60) → zI XT g → g 0 13 = g0 0 13 → Ex (fX0_ofTerm_11_l17 fu v2 v3 v4 v5 v6 v7 v8 g L) (fun (r : Int32) (g1 : Nat → Nat → Int32) (L1 : Nat → Nat → Int64) => zI XT g1 ∧ g1 0 13 = g0 0 13) := by
    intro v2 v3 v4 v5 v6 v7 v8 g L hb_v2 hb_v3 hb_v6 hb_v8 hI k0_0
    unfold fX0_ofTerm_11_l17
    refine Ex.loop (fun v => ((0 ≤ (Int32.toInt v2) ∧ (Int32.toInt v2) ≤ 60)) ∧ ((0 ≤ (Int32.toInt v3) ∧ (Int32.toInt v3) ≤ 11)) ∧ ((0 ≤ (Int32.toInt (v.2.1)))) ∧ ((0 ≤ (Int32.toInt (v.2.2.2.1)) ∧ (Int32.toInt (v.2.2.2.1)) ≤ 60)) ∧ (zI XT (v.2.2.2.2.1)) ∧ ((v.2.2.2.2.1) 0 13 = g0 0 13)) (fun v => 61 - (Int32.toInt (v.2.2.2.1))) (by omega) (by show 61 - (Int32.toInt v8) < (fu : Int); omega) ⟨hb_v2, hb_v3, hb_v6, hb_v8, hI, k0_0⟩ (fun k17 v hv ih17 => ?_)
    obtain ⟨v5, v6, v7, v8, g, L⟩ := v
    obtain ⟨hb_v2, hb_v3, hb_v6, hb_v8, hI, k0_0⟩ := hv
    have hb_v2 : (0 ≤ (Int32.toInt v2) ∧ (Int32.toInt v2) ≤ 60) := hb_v2
    have hb_v3 : (0 ≤ (Int32.toInt v3) ∧ (Int32.toInt v3) ≤ 11) := hb_v3
    have hb_v6 : (0 ≤ (Int32.toInt v6)) := hb_v6
    have hb_v8 : (0 ≤ (Int32.toInt v8) ∧ (Int32.toInt v8) ≤ 60) := hb_v8
    have hI : zI XT g := hI
    have k0_0 : g 0 13 = g0 0 13 := k0_0
    have ih17 : ∀ v' : Int32 × Int32 × Int32 × Int32 × (Nat → Nat → Int32) × (Nat → Nat → Int64), (((0 ≤ (Int32.toInt v2) ∧ (Int32.toInt v2) ≤ 60)) ∧ ((0 ≤ (Int32.toInt v3) ∧ (Int32.toInt v3) ≤ 11)) ∧ ((0 ≤ (Int32.toInt (v'.2.1)))) ∧ ((0 ≤ (Int32.toInt (v'.2.2.2.1)) ∧ (Int32.toInt (v'.2.2.2.1)) ≤ 60)) ∧ (zI XT (v'.2.2.2.2.1)) ∧ ((v'.2.2.2.2.1) 0 13 = g0 0 13)) → 61 - (Int32.toInt (v'.2.2.2.1)) < 61 - (Int32.toInt v8) → 0 < 61 - (Int32.toInt v8) → Ex (k17 v') (fun (r : Int32) (g1 : Nat → Nat → Int32) (L1 : Nat → Nat → Int64) => zI XT g1 ∧ g1 0 13 = g0 0 13) := ih17
    show Ex (fX0_ofTerm_11_s17 fu v2 v3 v4 k17 v5 v6 v7 v8 g L) (fun (r : Int32) (g1 : Nat → Nat → Int32) (L1 : Nat → Nat → Int64) => zI XT g1 ∧ g1 0 13 = g0 0 13)
    unfold fX0_ofTerm_11_s17
    refine Ex.ite (fun c2 => ?_) (fun c2 => ?_)
    ·
      have c2 := icc_le (m := (Int32.toInt v2)) (n := (Int32.toInt v8)) rfl rfl c2
      refine Ex.sti (hI.updN rfl) (fun g3 g3e hI => ?_)
      have k0_0 : g3 0 13 = g0 0 13 := by rw [g3e]; exact k0_0
      refine Ex.ite (fun c4 => ?_) (fun c4 => ?_)
      ·
        have c4 := icc_eq (m := (Int32.toInt v4)) (n := 0) rfl (by decide) c4
        exact Ex.ret ⟨hI, k0_0⟩
      ·
        have c4 := icc_neq (m := (Int32.toInt v4)) (n := 0) rfl (by decide) c4
        have J116 : ∀ (t0 : Int32) (g : Nat → Nat → Int32) (L : Nat → Nat → Int64), zI XT g → g 0 13 = g0 0 13 → Ex (fX0_ofTerm_11_p116 fu t0 g L) (fun (r : Int32) (g1 : Nat → Nat → Int32) (L1 : Nat → Nat → Int64) => zI XT g1 ∧ g1 0 13 = g0 0 13) := by
          intro t0 g L hI k0_0
          unfold fX0_ofTerm_11_p116
          exact Ex.ret ⟨hI, k0_0⟩
        refine Ex.ite (fun c5 => ?_) (fun c5 => ?_)
        ·
          have c5 := icc_eq (m := (Int32.toInt v4)) (n := 1) rfl (by decide) c5
          exact J116 v6 g3 L hI k0_0
        ·
          have c5 := icc_neq (m := (Int32.toInt v4)) (n := 1) rfl (by decide) c5
          exact J116 v7 g3 L hI k0_0
    ·
      have c2 := icc_nle (m := (Int32.toInt v2)) (n := (Int32.toInt v8)) rfl rfl c2
      refine Ex.cb (sX0_drawRunning_11 fu hfu g L hI) (fun x6 g7 L8 hq10 => ?_)
      obtain ⟨hI, kk0⟩ := hq10
      have hI : zI XT g7 := hI
      have k0_0 : g7 0 13 = g0 0 13 := kk0.trans k0_0
      refine Ex.sti (hI.updN rfl) (fun g11 g11e hI => ?_)
      have k0_0 : g11 0 13 = g0 0 13 := by rw [g11e]; exact k0_0
      refine Ex.cb (sX1_lostFrom_8 fu hfu 0 g11 L8 hI (by decide)) (fun x12 g13 L14 hq16 => ?_)
      obtain ⟨hI, kk0⟩ := hq16
      have hI : zI XT g13 := hI
      have k0_0 : g13 0 13 = g0 0 13 := kk0.trans k0_0
      generalize z17q : (v5 + x12) = z17
      refine Ex.lti (fun x18 x18e x18i => ?_)
      generalize z19q : (if v6 < x12 then x12 else v6) = z19
      have b20 := ic_max (x := v6) (y := x12) (m := (Int32.toInt v6)) (n := (Int32.toInt x12)) rfl rfl
      rw [z19q] at b20
      refine Ex.lti (fun x21 x21e x21i => ?_)
      refine Ex.cb (sX1_late_8 fu hfu v3 g13 L14 hI (by omega)) (fun x22 g23 L24 hq26 => ?_)
      obtain ⟨hI, kk0⟩ := hq26
      have hI : zI XT g23 := hI
      have k0_0 : g23 0 13 = g0 0 13 := kk0.trans k0_0
      have J78 : ∀ (v5 : Int32) (v6 : Int32) (t0 : Int32) (t1 : Int32) (g : Nat → Nat → Int32) (L : Nat → Nat → Int64), (1 ≤ (Int32.toInt v2) ∧ (Int32.toInt v2) ≤ 60) → (0 ≤ (Int32.toInt v3) ∧ (Int32.toInt v3) ≤ 11) → (0 ≤ (Int32.toInt v6)) → (0 ≤ (Int32.toInt v8) ∧ (Int32.toInt v8) ≤ 59) → (0 ≤ (Int32.toInt t0) ∧ (Int32.toInt t0) ≤ 1) → zI XT g → g 0 13 = g0 0 13 → Ex (fX0_ofTerm_11_p78 fu k17 v2 v3 v4 v5 v6 v8 t0 t1 g L) (fun (r : Int32) (g1 : Nat → Nat → Int32) (L1 : Nat → Nat → Int64) => zI XT g1 ∧ g1 0 13 = g0 0 13) := by
        intro v5 v6 t0 t1 g L hb_v2 hb_v3 hb_v6 hb_v8 hb_t0 hI k0_0
        unfold fX0_ofTerm_11_p78
        generalize z27q : (t1 + t0) = z27
        refine Ex.lti (fun x28 x28e x28i => ?_)
        generalize z29q : (v8 + 1) = z29
        have e30 : (Int32.toInt z29) = (Int32.toInt v8) + 1 := by rw [← z29q]; exact ic_addc rfl (by decide) (by omega) (by omega)
        exact ih17 (v5, v6, x28, z29, g, L) ⟨(show (0 ≤ (Int32.toInt v2) ∧ (Int32.toInt v2) ≤ 60) from by omega), (show (0 ≤ (Int32.toInt v3) ∧ (Int32.toInt v3) ≤ 11) from by omega), (show (0 ≤ (Int32.toInt v6)) from by omega), (show (0 ≤ (Int32.toInt z29) ∧ (Int32.toInt z29) ≤ 60) from by omega), hI, k0_0⟩ (by show 61 - (Int32.toInt z29) < _; omega) (by omega)
      refine Ex.ite (fun c31 => ?_) (fun c31 => ?_)
      ·
        have c31 := icc_le (m := (Int32.toInt x22)) (n := 0) rfl (by decide) c31
        exact J78 x18 x21 0 v7 g23 L24 (by omega) (by omega) (by omega) (by omega) (by decide) hI k0_0
      ·
        have c31 := icc_nle (m := (Int32.toInt x22)) (n := 0) rfl (by decide) c31
        exact J78 x18 x21 1 v7 g23 L24 (by omega) (by omega) (by omega) (by omega) (by decide) hI k0_0
  exact lp17 p2 p3 p4 0 0 0 0 g1 L0 (by omega) (by omega) (by decide) (by decide) hI k0_0
set_option maxHeartbeats 4000000 in
set_option maxRecDepth 100000 in
theorem sX9_addWay_12 (fu : Nat) (hfu : 1180591620717411303424 ≤ fu) (p1 : Int32) (p2 : Int32) (g0 : Nat → Nat → Int32) (L0 : Nat → Nat → Int64) (hI : zI XT g0) (hp1 : (0 ≤ (Int32.toInt p1) ∧ (Int32.toInt p1) ≤ 11)) (hp2 : (0 ≤ (Int32.toInt p2) ∧ (Int32.toInt p2) ≤ 11)) : Ex (fX9_addWay_12 fu p1 p2 g0 L0) (fun (r : Unit) (g1 : Nat → Nat → Int32) (L1 : Nat → Nat → Int64) => zI XT g1 ∧ g1 0 13 = g0 0 13) := by
  have k0_0 : g0 0 13 = g0 0 13 := rfl
  unfold fX9_addWay_12
  have b1 : 0 ≤ (Int32.toInt (g0 12 5)) ∧ (Int32.toInt (g0 12 5)) ≤ 72 := hI 12 5 0 72 rfl
  have J106 : ∀ (g : Nat → Nat → Int32) (L : Nat → Nat → Int64), (1 ≤ (Int32.toInt (g 12 5)) ∧ (Int32.toInt (g 12 5)) ≤ 72) → zI XT g → g 0 13 = g0 0 13 → Ex (fX9_addWay_12_p106 fu g L) (fun (r : Unit) (g1 : Nat → Nat → Int32) (L1 : Nat → Nat → Int64) => zI XT g1 ∧ g1 0 13 = g0 0 13) := by
    intro g L hw_12_5 hI k0_0
    unfold fX9_addWay_12_p106
    exact Ex.ret ⟨hI, k0_0⟩
  refine Ex.ite (fun c2 => ?_) (fun c2 => ?_)
  ·
    have c2 := icc_le (m := 72) (n := (Int32.toInt (g0 12 5))) (by decide) rfl c2
    exact J106 g0 L0 (by omega) hI k0_0
  ·
    have c2 := icc_nle (m := 72) (n := (Int32.toInt (g0 12 5))) (by decide) rfl c2
    refine Ex.ck (by omega) (by omega) ?_
    refine Ex.ck (by omega) (by omega) ?_
    refine Ex.sti (hI.updN rfl) (fun g3 g3e hI => ?_)
    have w4 : (Int32.toInt (g3 12 5)) = (Int32.toInt (g0 12 5)) := by rw [g3e]; rfl
    have k0_0 : g3 0 13 = g0 0 13 := by rw [g3e]; exact k0_0
    refine Ex.ck (by omega) (by omega) ?_
    refine Ex.cb (sX1_way_8 fu hfu p1 p2 g3 L0 hI (by omega) (by omega)) (fun x5 g6 L7 hq9 => ?_)
    obtain ⟨hI, kk0, kk1⟩ := hq9
    have hI : zI XT g6 := hI
    have w10 : (Int32.toInt (g6 12 5)) = (Int32.toInt (g3 12 5)) := congrArg Int32.toInt kk0
    have k0_0 : g6 0 13 = g0 0 13 := kk1.trans k0_0
    generalize z11q : ((g3 44 (Int32.toNatClampNeg p1)) + x5) = z11
    refine Ex.ck (by omega) (by omega) ?_
    refine Ex.sti (hI.updN rfl) (fun g12 g12e hI => ?_)
    have w13 : (Int32.toInt (g12 12 5)) = (Int32.toInt (g6 12 5)) := by rw [g12e]; rfl
    have k0_0 : g12 0 13 = g0 0 13 := by rw [g12e]; exact k0_0
    refine Ex.ck (by omega) (by omega) ?_
    refine Ex.ltn (fun q14 q14e => ?_)
    have q14b : 57 ≤ q14 ∧ q14 < 69 := by have := Nat.mod_lt (Int32.toNatClampNeg p1) (show 12 > 0 by decide); omega
    refine Ex.ck (by omega) (by omega) ?_
    refine Ex.sti (hI.updN rfl) (fun g15 g15e hI => ?_)
    have w16 : (Int32.toInt (g15 12 5)) = (Int32.toInt (g12 12 5)) := by rw [g15e]; rfl
    have k0_0 : g15 0 13 = g0 0 13 := by rw [g15e]; exact k0_0
    refine Ex.cb (sX1_isUpstairs_8 fu hfu p2 g15 L7 hI (by omega)) (fun x17 g18 L19 hq21 => ?_)
    obtain ⟨hI, kk0, kk1, rb_⟩ := hq21
    have b22 : 0 ≤ (Int32.toInt x17) ∧ (Int32.toInt x17) ≤ 1 := rb_
    have hI : zI XT g18 := hI
    have w23 : (Int32.toInt (g18 12 5)) = (Int32.toInt (g15 12 5)) := congrArg Int32.toInt kk0
    have k0_0 : g18 0 13 = g0 0 13 := kk1.trans k0_0
    refine Ex.ck (by omega) (by omega) ?_
    refine Ex.sti (hI.upd rfl z_nar.1 z_nar.2) (fun g24 g24e hI => ?_)
    have w25 : (Int32.toInt (g24 12 5)) = (Int32.toInt (g18 12 5)) := by rw [g24e]; rfl
    have k0_0 : g24 0 13 = g0 0 13 := by rw [g24e]; exact k0_0
    generalize z26q : ((g24 12 5) + 1) = z26
    have e27 : (Int32.toInt z26) = (Int32.toInt (g24 12 5)) + 1 := by rw [← z26q]; exact ic_addc rfl (by decide) (by omega) (by omega)
    refine Ex.sti (hI.upd rfl (by omega) (by omega)) (fun g28 g28e hI => ?_)
    have k0_0 : g28 0 13 = g0 0 13 := by rw [g28e]; exact k0_0
    have w29 : (Int32.toInt (g28 12 5)) = (Int32.toInt z26) := by rw [g28e, upd2_at]
    exact J106 g28 L19 (by omega) hI k0_0
set_option maxHeartbeats 4000000 in
set_option maxRecDepth 100000 in
theorem sX9_gather_12 (fu : Nat) (hfu : 1180591620717411303424 ≤ fu) (g0 : Nat → Nat → Int32) (L0 : Nat → Nat → Int64) (hI : zI XT g0) : Ex (fX9_gather_12 fu g0 L0) (fun (r : Unit) (g1 : Nat → Nat → Int32) (L1 : Nat → Nat → Int64) => zI XT g1 ∧ g1 0 13 = g0 0 13) := by
  have k0_0 : g0 0 13 = g0 0 13 := rfl
  unfold fX9_gather_12
  refine Ex.cb (sX1_runFrom_8 fu hfu 0 g0 L0 hI (by decide)) (fun x1 g2 L3 hq5 => ?_)
  obtain ⟨hI, kk0⟩ := hq5
  have hI : zI XT g2 := hI
  have k0_0 : g2 0 13 = g0 0 13 := kk0.trans k0_0
  refine Ex.sti (hI.upd rfl (by decide) (by decide)) (fun g6 g6e hI => ?_)
  have k0_0 : g6 0 13 = g0 0 13 := by rw [g6e]; exact k0_0
  have lp15 : ∀ (v1 : Int32) (g : Nat → Nat → Int32) (L : Nat → Nat → Int64), (0 ≤ (Int32.toInt v1) ∧ (Int32.toInt v1) ≤ 12) → zI XT g → g 0 13 = g0 0 13 → Ex (fX9_gather_12_l15 fu v1 g L) (fun (r : Unit) (g1 : Nat → Nat → Int32) (L1 : Nat → Nat → Int64) => zI XT g1 ∧ g1 0 13 = g0 0 13) := by
    intro v1 g L hb_v1 hI k0_0
    unfold fX9_gather_12_l15
    refine Ex.loop (fun v => ((0 ≤ (Int32.toInt (v.1)) ∧ (Int32.toInt (v.1)) ≤ 12)) ∧ (zI XT (v.2.1)) ∧ ((v.2.1) 0 13 = g0 0 13)) (fun v => 13 - (Int32.toInt (v.1))) (by omega) (by show 13 - (Int32.toInt v1) < (fu : Int); omega) ⟨hb_v1, hI, k0_0⟩ (fun k15 v hv ih15 => ?_)
    obtain ⟨v1, g, L⟩ := v
    obtain ⟨hb_v1, hI, k0_0⟩ := hv
    have hb_v1 : (0 ≤ (Int32.toInt v1) ∧ (Int32.toInt v1) ≤ 12) := hb_v1
    have hI : zI XT g := hI
    have k0_0 : g 0 13 = g0 0 13 := k0_0
    have ih15 : ∀ v' : Int32 × (Nat → Nat → Int32) × (Nat → Nat → Int64), (((0 ≤ (Int32.toInt (v'.1)) ∧ (Int32.toInt (v'.1)) ≤ 12)) ∧ (zI XT (v'.2.1)) ∧ ((v'.2.1) 0 13 = g0 0 13)) → 13 - (Int32.toInt (v'.1)) < 13 - (Int32.toInt v1) → 0 < 13 - (Int32.toInt v1) → Ex (k15 v') (fun (r : Unit) (g1 : Nat → Nat → Int32) (L1 : Nat → Nat → Int64) => zI XT g1 ∧ g1 0 13 = g0 0 13) := ih15
    show Ex (fX9_gather_12_s15 fu k15 v1 g L) (fun (r : Unit) (g1 : Nat → Nat → Int32) (L1 : Nat → Nat → Int64) => zI XT g1 ∧ g1 0 13 = g0 0 13)
    unfold fX9_gather_12_s15
    have b7 : 0 ≤ (Int32.toInt (g 1 2)) ∧ (Int32.toInt (g 1 2)) ≤ 12 := hI 1 2 0 12 rfl
    refine Ex.ite (fun c8 => ?_) (fun c8 => ?_)
    ·
      have c8 := icc_le (m := (Int32.toInt (g 1 2))) (n := (Int32.toInt v1)) rfl rfl c8
      exact Ex.ret ⟨hI, k0_0⟩
    ·
      have c8 := icc_nle (m := (Int32.toInt (g 1 2))) (n := (Int32.toInt v1)) rfl rfl c8
      refine Ex.ck (by omega) (by omega) ?_
      refine Ex.ltn (fun q9 q9e => ?_)
      have q9b : 57 ≤ q9 ∧ q9 < 69 := by have := Nat.mod_lt (Int32.toNatClampNeg v1) (show 12 > 0 by decide); omega
      have lp44 : ∀ (q2_ : Nat) (v3 : Int32) (g : Nat → Nat → Int32) (L : Nat → Nat → Int64), (0 ≤ (Int32.toInt v1) ∧ (Int32.toInt v1) ≤ 11) → 57 ≤ q2_ → q2_ < 81 → (0 ≤ (Int32.toInt v3) ∧ (Int32.toInt v3) ≤ 6) → zI XT g → g 0 13 = g0 0 13 → Ex (fX9_gather_12_l44 fu k15 v1 q2_ v3 g L) (fun (r : Unit) (g1 : Nat → Nat → Int32) (L1 : Nat → Nat → Int64) => zI XT g1 ∧ g1 0 13 = g0 0 13) := by
        intro q2_ v3 g L hb_v1 q2_l q2_h hb_v3 hI k0_0
        unfold fX9_gather_12_l44
        refine Ex.loop (fun v => ((0 ≤ (Int32.toInt v1) ∧ (Int32.toInt v1) ≤ 11)) ∧ (57 ≤ q2_) ∧ (q2_ < 81) ∧ ((0 ≤ (Int32.toInt (v.1)) ∧ (Int32.toInt (v.1)) ≤ 6)) ∧ (zI XT (v.2.1)) ∧ ((v.2.1) 0 13 = g0 0 13)) (fun v => 7 - (Int32.toInt (v.1))) (by omega) (by show 7 - (Int32.toInt v3) < (fu : Int); omega) ⟨hb_v1, q2_l, q2_h, hb_v3, hI, k0_0⟩ (fun k44 v hv ih44 => ?_)
        obtain ⟨v3, g, L⟩ := v
        obtain ⟨hb_v1, q2_l, q2_h, hb_v3, hI, k0_0⟩ := hv
        have hb_v1 : (0 ≤ (Int32.toInt v1) ∧ (Int32.toInt v1) ≤ 11) := hb_v1
        have q2_l : 57 ≤ q2_ := q2_l
        have q2_h : q2_ < 81 := q2_h
        have hb_v3 : (0 ≤ (Int32.toInt v3) ∧ (Int32.toInt v3) ≤ 6) := hb_v3
        have hI : zI XT g := hI
        have k0_0 : g 0 13 = g0 0 13 := k0_0
        have ih44 : ∀ v' : Int32 × (Nat → Nat → Int32) × (Nat → Nat → Int64), (((0 ≤ (Int32.toInt v1) ∧ (Int32.toInt v1) ≤ 11)) ∧ (57 ≤ q2_) ∧ (q2_ < 81) ∧ ((0 ≤ (Int32.toInt (v'.1)) ∧ (Int32.toInt (v'.1)) ≤ 6)) ∧ (zI XT (v'.2.1)) ∧ ((v'.2.1) 0 13 = g0 0 13)) → 7 - (Int32.toInt (v'.1)) < 7 - (Int32.toInt v3) → 0 < 7 - (Int32.toInt v3) → Ex (k44 v') (fun (r : Unit) (g1 : Nat → Nat → Int32) (L1 : Nat → Nat → Int64) => zI XT g1 ∧ g1 0 13 = g0 0 13) := ih44
        show Ex (fX9_gather_12_s44 fu k15 v1 q2_ k44 v3 g L) (fun (r : Unit) (g1 : Nat → Nat → Int32) (L1 : Nat → Nat → Int64) => zI XT g1 ∧ g1 0 13 = g0 0 13)
        unfold fX9_gather_12_s44
        have b10 : 0 ≤ (Int32.toInt (g q2_ 1)) ∧ (Int32.toInt (g q2_ 1)) ≤ 6 := hI q2_ 1 0 6 (xt_les (by omega) (by omega))
        refine Ex.ite (fun c11 => ?_) (fun c11 => ?_)
        ·
          have c11 := icc_le (m := (Int32.toInt (g q2_ 1))) (n := (Int32.toInt v3)) rfl rfl c11
          generalize z12q : (v1 + 1) = z12
          have e13 : (Int32.toInt z12) = (Int32.toInt v1) + 1 := by rw [← z12q]; exact ic_addc rfl (by decide) (by omega) (by omega)
          exact ih15 (z12, g, L) ⟨(show (0 ≤ (Int32.toInt z12) ∧ (Int32.toInt z12) ≤ 12) from by omega), hI, k0_0⟩ (by show 13 - (Int32.toInt z12) < _; omega) (by omega)
        ·
          have c11 := icc_nle (m := (Int32.toInt (g q2_ 1))) (n := (Int32.toInt v3)) rfl rfl c11
          refine Ex.ck (by omega) (by omega) ?_
          have b14 : 0 ≤ (Int32.toInt (g (q2_ + 24) (Int32.toNatClampNeg v3))) ∧ (Int32.toInt (g (q2_ + 24) (Int32.toNatClampNeg v3))) ≤ 11 := hI (q2_ + 24) _ 0 11 (xt_wai (by omega))
          refine Ex.lti (fun x15 x15e x15i => ?_)
          refine Ex.cb (sX1_isUpstairs_8 fu hfu x15 g L hI (by omega)) (fun x16 g17 L18 hq20 => ?_)
          obtain ⟨hI, kk0, kk1, rb_⟩ := hq20
          have b21 : 0 ≤ (Int32.toInt x16) ∧ (Int32.toInt x16) ≤ 1 := rb_
          have hI : zI XT g17 := hI
          have k0_0 : g17 0 13 = g0 0 13 := kk1.trans k0_0
          refine Ex.cb (sX1_isUpstairs_8 fu hfu v1 g17 L18 hI (by omega)) (fun x22 g23 L24 hq26 => ?_)
          obtain ⟨hI, kk0, kk1, rb_⟩ := hq26
          have b27 : 0 ≤ (Int32.toInt x22) ∧ (Int32.toInt x22) ≤ 1 := rb_
          have hI : zI XT g23 := hI
          have k0_0 : g23 0 13 = g0 0 13 := kk1.trans k0_0
          have J87 : ∀ (g : Nat → Nat → Int32) (L : Nat → Nat → Int64), (0 ≤ (Int32.toInt v1) ∧ (Int32.toInt v1) ≤ 11) → 57 ≤ q2_ → q2_ < 81 → (0 ≤ (Int32.toInt v3) ∧ (Int32.toInt v3) ≤ 5) → zI XT g → g 0 13 = g0 0 13 → Ex (fX9_gather_12_p87 fu k15 k44 v1 q2_ v3 g L) (fun (r : Unit) (g1 : Nat → Nat → Int32) (L1 : Nat → Nat → Int64) => zI XT g1 ∧ g1 0 13 = g0 0 13) := by
            intro g L hb_v1 q2_l q2_h hb_v3 hI k0_0
            unfold fX9_gather_12_p87
            generalize z28q : (v3 + 1) = z28
            have e29 : (Int32.toInt z28) = (Int32.toInt v3) + 1 := by rw [← z28q]; exact ic_addc rfl (by decide) (by omega) (by omega)
            exact ih44 (z28, g, L) ⟨(show (0 ≤ (Int32.toInt v1) ∧ (Int32.toInt v1) ≤ 11) from by omega), (show 57 ≤ q2_ from by omega), (show q2_ < 81 from by omega), (show (0 ≤ (Int32.toInt z28) ∧ (Int32.toInt z28) ≤ 6) from by omega), hI, k0_0⟩ (by show 7 - (Int32.toInt z28) < _; omega) (by omega)
          refine Ex.ite (fun c30 => ?_) (fun c30 => ?_)
          ·
            have c30 := icc_eq (m := (Int32.toInt x16)) (n := (Int32.toInt x22)) rfl rfl c30
            exact J87 g23 L24 (by omega) (by omega) (by omega) (by omega) hI k0_0
          ·
            have c30 := icc_neq (m := (Int32.toInt x16)) (n := (Int32.toInt x22)) rfl rfl c30
            refine Ex.cb (sX9_addWay_12 fu hfu x15 v1 g23 L24 hI (by omega) (by omega)) (fun x31 g32 L33 hq35 => ?_)
            obtain ⟨hI, kk0⟩ := hq35
            have hI : zI XT g32 := hI
            have k0_0 : g32 0 13 = g0 0 13 := kk0.trans k0_0
            exact J87 g32 L33 (by omega) (by omega) (by omega) (by omega) hI k0_0
      exact lp44 q9 0 g L (by omega) (by omega) (by omega) (by decide) hI k0_0
  exact lp15 0 g6 L3 (by decide) hI k0_0
set_option maxHeartbeats 4000000 in
set_option maxRecDepth 100000 in
theorem sX9_crossings_12 (fu : Nat) (hfu : 1180591620717411303424 ≤ fu) (g0 : Nat → Nat → Int32) (L0 : Nat → Nat → Int64) (hI : zI XT g0) : Ex (fX9_crossings_12 fu g0 L0) (fun (r : Int32) (g1 : Nat → Nat → Int32) (L1 : Nat → Nat → Int64) => zI XT g1 ∧ g1 0 13 = g0 0 13) := by
  have k0_0 : g0 0 13 = g0 0 13 := rfl
  unfold fX9_crossings_12
  have lp4 : ∀ (v1 : Int32) (v2 : Int32) (g : Nat → Nat → Int32) (L : Nat → Nat → Int64), (0 ≤ (Int32.toInt v2) ∧ (Int32.toInt v2) ≤ 73) → zI XT g → g 0 13 = g0 0 13 → Ex (fX9_crossings_12_l4 fu v1 v2 g L) (fun (r : Int32) (g1 : Nat → Nat → Int32) (L1 : Nat → Nat → Int64) => zI XT g1 ∧ g1 0 13 = g0 0 13) := by
    intro v1 v2 g L hb_v2 hI k0_0
    unfold fX9_crossings_12_l4
    refine Ex.loop (fun v => ((0 ≤ (Int32.toInt (v.2.1)) ∧ (Int32.toInt (v.2.1)) ≤ 73)) ∧ (zI XT (v.2.2.1)) ∧ ((v.2.2.1) 0 13 = g0 0 13)) (fun v => 74 - (Int32.toInt (v.2.1))) (by omega) (by show 74 - (Int32.toInt v2) < (fu : Int); omega) ⟨hb_v2, hI, k0_0⟩ (fun k4 v hv ih4 => ?_)
    obtain ⟨v1, v2, g, L⟩ := v
    obtain ⟨hb_v2, hI, k0_0⟩ := hv
    have hb_v2 : (0 ≤ (Int32.toInt v2) ∧ (Int32.toInt v2) ≤ 73) := hb_v2
    have hI : zI XT g := hI
    have k0_0 : g 0 13 = g0 0 13 := k0_0
    have ih4 : ∀ v' : Int32 × Int32 × (Nat → Nat → Int32) × (Nat → Nat → Int64), (((0 ≤ (Int32.toInt (v'.2.1)) ∧ (Int32.toInt (v'.2.1)) ≤ 73)) ∧ (zI XT (v'.2.2.1)) ∧ ((v'.2.2.1) 0 13 = g0 0 13)) → 74 - (Int32.toInt (v'.2.1)) < 74 - (Int32.toInt v2) → 0 < 74 - (Int32.toInt v2) → Ex (k4 v') (fun (r : Int32) (g1 : Nat → Nat → Int32) (L1 : Nat → Nat → Int64) => zI XT g1 ∧ g1 0 13 = g0 0 13) := ih4
    show Ex (fX9_crossings_12_s4 fu k4 v1 v2 g L) (fun (r : Int32) (g1 : Nat → Nat → Int32) (L1 : Nat → Nat → Int64) => zI XT g1 ∧ g1 0 13 = g0 0 13)
    unfold fX9_crossings_12_s4
    have b1 : 0 ≤ (Int32.toInt (g 12 5)) ∧ (Int32.toInt (g 12 5)) ≤ 72 := hI 12 5 0 72 rfl
    refine Ex.ite (fun c2 => ?_) (fun c2 => ?_)
    ·
      have c2 := icc_le (m := (Int32.toInt (g 12 5))) (n := (Int32.toInt v2)) rfl rfl c2
      exact Ex.ret ⟨hI, k0_0⟩
    ·
      have c2 := icc_nle (m := (Int32.toInt (g 12 5))) (n := (Int32.toInt v2)) rfl rfl c2
      generalize z3q : (v2 + 1) = z3
      have e4 : (Int32.toInt z3) = (Int32.toInt v2) + 1 := by rw [← z3q]; exact ic_addc rfl (by decide) (by omega) (by omega)
      refine Ex.lti (fun x5 x5e x5i => ?_)
      have lp16 : ∀ (v1 : Int32) (v3 : Int32) (g : Nat → Nat → Int32) (L : Nat → Nat → Int64), (0 ≤ (Int32.toInt v2) ∧ (Int32.toInt v2) ≤ 72) → (1 ≤ (Int32.toInt v3) ∧ (Int32.toInt v3) ≤ 72) → zI XT g → g 0 13 = g0 0 13 → Ex (fX9_crossings_12_l16 fu k4 v2 v1 v3 g L) (fun (r : Int32) (g1 : Nat → Nat → Int32) (L1 : Nat → Nat → Int64) => zI XT g1 ∧ g1 0 13 = g0 0 13) := by
        intro v1 v3 g L hb_v2 hb_v3 hI k0_0
        unfold fX9_crossings_12_l16
        refine Ex.loop (fun v => ((0 ≤ (Int32.toInt v2) ∧ (Int32.toInt v2) ≤ 72)) ∧ ((1 ≤ (Int32.toInt (v.2.1)) ∧ (Int32.toInt (v.2.1)) ≤ 72)) ∧ (zI XT (v.2.2.1)) ∧ ((v.2.2.1) 0 13 = g0 0 13)) (fun v => 73 - (Int32.toInt (v.2.1))) (by omega) (by show 73 - (Int32.toInt v3) < (fu : Int); omega) ⟨hb_v2, hb_v3, hI, k0_0⟩ (fun k16 v hv ih16 => ?_)
        obtain ⟨v1, v3, g, L⟩ := v
        obtain ⟨hb_v2, hb_v3, hI, k0_0⟩ := hv
        have hb_v2 : (0 ≤ (Int32.toInt v2) ∧ (Int32.toInt v2) ≤ 72) := hb_v2
        have hb_v3 : (1 ≤ (Int32.toInt v3) ∧ (Int32.toInt v3) ≤ 72) := hb_v3
        have hI : zI XT g := hI
        have k0_0 : g 0 13 = g0 0 13 := k0_0
        have ih16 : ∀ v' : Int32 × Int32 × (Nat → Nat → Int32) × (Nat → Nat → Int64), (((0 ≤ (Int32.toInt v2) ∧ (Int32.toInt v2) ≤ 72)) ∧ ((1 ≤ (Int32.toInt (v'.2.1)) ∧ (Int32.toInt (v'.2.1)) ≤ 72)) ∧ (zI XT (v'.2.2.1)) ∧ ((v'.2.2.1) 0 13 = g0 0 13)) → 73 - (Int32.toInt (v'.2.1)) < 73 - (Int32.toInt v3) → 0 < 73 - (Int32.toInt v3) → Ex (k16 v') (fun (r : Int32) (g1 : Nat → Nat → Int32) (L1 : Nat → Nat → Int64) => zI XT g1 ∧ g1 0 13 = g0 0 13) := ih16
        show Ex (fX9_crossings_12_s16 fu k4 v2 k16 v1 v3 g L) (fun (r : Int32) (g1 : Nat → Nat → Int32) (L1 : Nat → Nat → Int64) => zI XT g1 ∧ g1 0 13 = g0 0 13)
        unfold fX9_crossings_12_s16
        have b6 : 0 ≤ (Int32.toInt (g 12 5)) ∧ (Int32.toInt (g 12 5)) ≤ 72 := hI 12 5 0 72 rfl
        refine Ex.ite (fun c7 => ?_) (fun c7 => ?_)
        ·
          have c7 := icc_le (m := (Int32.toInt (g 12 5))) (n := (Int32.toInt v3)) rfl rfl c7
          generalize z8q : (v2 + 1) = z8
          have e9 : (Int32.toInt z8) = (Int32.toInt v2) + 1 := by rw [← z8q]; exact ic_addc rfl (by decide) (by omega) (by omega)
          exact ih4 (v1, z8, g, L) ⟨(show (0 ≤ (Int32.toInt z8) ∧ (Int32.toInt z8) ≤ 73) from by omega), hI, k0_0⟩ (by show 74 - (Int32.toInt z8) < _; omega) (by omega)
        ·
          have c7 := icc_nle (m := (Int32.toInt (g 12 5))) (n := (Int32.toInt v3)) rfl rfl c7
          refine Ex.ck (by omega) (by omega) ?_
          refine Ex.ck (by omega) (by omega) ?_
          generalize z10q : (if (g 53 (Int32.toNatClampNeg v2)) < (g 53 (Int32.toNatClampNeg v3)) then (g 53 (Int32.toNatClampNeg v3)) else (g 53 (Int32.toNatClampNeg v2))) = z10
          have b11 := ic_max (x := (g 53 (Int32.toNatClampNeg v2))) (y := (g 53 (Int32.toNatClampNeg v3))) (m := (Int32.toInt (g 53 (Int32.toNatClampNeg v2)))) (n := (Int32.toInt (g 53 (Int32.toNatClampNeg v3)))) rfl rfl
          rw [z10q] at b11
          refine Ex.ck (by omega) (by omega) ?_
          refine Ex.ck (by omega) (by omega) ?_
          generalize z12q : (if (g 54 (Int32.toNatClampNeg v3)) < (g 54 (Int32.toNatClampNeg v2)) then (g 54 (Int32.toNatClampNeg v3)) else (g 54 (Int32.toNatClampNeg v2))) = z12
          have b13 := ic_min (x := (g 54 (Int32.toNatClampNeg v2))) (y := (g 54 (Int32.toNatClampNeg v3))) (m := (Int32.toInt (g 54 (Int32.toNatClampNeg v2)))) (n := (Int32.toInt (g 54 (Int32.toNatClampNeg v3)))) rfl rfl
          rw [z12q] at b13
          have J62 : ∀ (t0 : Int32) (g : Nat → Nat → Int32) (L : Nat → Nat → Int64), (0 ≤ (Int32.toInt v2) ∧ (Int32.toInt v2) ≤ 72) → (1 ≤ (Int32.toInt v3) ∧ (Int32.toInt v3) ≤ 71) → (0 ≤ (Int32.toInt t0) ∧ (Int32.toInt t0) ≤ 1) → zI XT g → g 0 13 = g0 0 13 → Ex (fX9_crossings_12_p62 fu k4 k16 v1 v2 v3 t0 g L) (fun (r : Int32) (g1 : Nat → Nat → Int32) (L1 : Nat → Nat → Int64) => zI XT g1 ∧ g1 0 13 = g0 0 13) := by
            intro t0 g L hb_v2 hb_v3 hb_t0 hI k0_0
            unfold fX9_crossings_12_p62
            have J90 : ∀ (t0 : Int32) (t1 : Int32) (g : Nat → Nat → Int32) (L : Nat → Nat → Int64), (0 ≤ (Int32.toInt v2) ∧ (Int32.toInt v2) ≤ 72) → (1 ≤ (Int32.toInt v3) ∧ (Int32.toInt v3) ≤ 71) → (0 ≤ (Int32.toInt t0) ∧ (Int32.toInt t0) ≤ 1) → zI XT g → g 0 13 = g0 0 13 → Ex (fX9_crossings_12_p90 fu k4 k16 v2 v3 t0 t1 g L) (fun (r : Int32) (g1 : Nat → Nat → Int32) (L1 : Nat → Nat → Int64) => zI XT g1 ∧ g1 0 13 = g0 0 13) := by
              intro t0 t1 g L hb_v2 hb_v3 hb_t0 hI k0_0
              unfold fX9_crossings_12_p90
              generalize z14q : (t1 + t0) = z14
              refine Ex.lti (fun x15 x15e x15i => ?_)
              generalize z16q : (v3 + 1) = z16
              have e17 : (Int32.toInt z16) = (Int32.toInt v3) + 1 := by rw [← z16q]; exact ic_addc rfl (by decide) (by omega) (by omega)
              exact ih16 (x15, z16, g, L) ⟨(show (0 ≤ (Int32.toInt v2) ∧ (Int32.toInt v2) ≤ 72) from by omega), (show (1 ≤ (Int32.toInt z16) ∧ (Int32.toInt z16) ≤ 72) from by omega), hI, k0_0⟩ (by show 73 - (Int32.toInt z16) < _; omega) (by omega)
            have J89 : ∀ (t0 : Int32) (g : Nat → Nat → Int32) (L : Nat → Nat → Int64), (0 ≤ (Int32.toInt v2) ∧ (Int32.toInt v2) ≤ 72) → (1 ≤ (Int32.toInt v3) ∧ (Int32.toInt v3) ≤ 71) → zI XT g → g 0 13 = g0 0 13 → Ex (fX9_crossings_12_p89 fu k4 k16 v2 v3 t0 g L) (fun (r : Int32) (g1 : Nat → Nat → Int32) (L1 : Nat → Nat → Int64) => zI XT g1 ∧ g1 0 13 = g0 0 13) := by
              intro t0 g L hb_v2 hb_v3 hI k0_0
              unfold fX9_crossings_12_p89
              exact J90 0 t0 g L (by omega) (by omega) (by decide) hI k0_0
            refine Ex.ite (fun c18 => ?_) (fun c18 => ?_)
            ·
              have c18 := icc_eq (m := (Int32.toInt t0)) (n := 0) rfl (by decide) c18
              exact J89 v1 g L (by omega) (by omega) hI k0_0
            ·
              have c18 := icc_neq (m := (Int32.toInt t0)) (n := 0) rfl (by decide) c18
              refine Ex.ck (by omega) (by omega) ?_
              have b19 : 0 ≤ (Int32.toInt (g 56 (Int32.toNatClampNeg v2))) ∧ (Int32.toInt (g 56 (Int32.toNatClampNeg v2))) ≤ 1 := hI 56 _ 0 1 rfl
              refine Ex.ck (by omega) (by omega) ?_
              have b20 : 0 ≤ (Int32.toInt (g 56 (Int32.toNatClampNeg v3))) ∧ (Int32.toInt (g 56 (Int32.toNatClampNeg v3))) ≤ 1 := hI 56 _ 0 1 rfl
              refine Ex.ite (fun c21 => ?_) (fun c21 => ?_)
              ·
                have c21 := icc_eq (m := (Int32.toInt (g 56 (Int32.toNatClampNeg v2)))) (n := (Int32.toInt (g 56 (Int32.toNatClampNeg v3)))) rfl rfl c21
                exact J89 v1 g L (by omega) (by omega) hI k0_0
              ·
                have c21 := icc_neq (m := (Int32.toInt (g 56 (Int32.toNatClampNeg v2)))) (n := (Int32.toInt (g 56 (Int32.toNatClampNeg v3)))) rfl rfl c21
                exact J90 1 v1 g L (by omega) (by omega) (by decide) hI k0_0
          refine Ex.ite (fun c22 => ?_) (fun c22 => ?_)
          ·
            have c22 := icc_le (m := (Int32.toInt z12)) (n := (Int32.toInt z10)) rfl rfl c22
            exact J62 0 g L (by omega) (by omega) (by decide) hI k0_0
          ·
            have c22 := icc_nle (m := (Int32.toInt z12)) (n := (Int32.toInt z10)) rfl rfl c22
            exact J62 1 g L (by omega) (by omega) (by decide) hI k0_0
      exact lp16 v1 x5 g L (by omega) (by omega) hI k0_0
  exact lp4 0 0 g0 L0 (by decide) hI k0_0
set_option maxHeartbeats 4000000 in
set_option maxRecDepth 100000 in
theorem sX9_peopleIn_12 (fu : Nat) (hfu : 1180591620717411303424 ≤ fu) (p1 : Int32) (g0 : Nat → Nat → Int32) (L0 : Nat → Nat → Int64) (hI : zI XT g0) : Ex (fX9_peopleIn_12 fu p1 g0 L0) (fun (r : Int32) (g1 : Nat → Nat → Int32) (L1 : Nat → Nat → Int64) => zI XT g1 ∧ g1 0 13 = g0 0 13) := by
  have k0_0 : g0 0 13 = g0 0 13 := rfl
  unfold fX9_peopleIn_12
  have lp4 : ∀ (v1 : Int32) (v2 : Int32) (v3 : Int32) (g : Nat → Nat → Int32) (L : Nat → Nat → Int64), (0 ≤ (Int32.toInt v3) ∧ (Int32.toInt v3) ≤ 73) → zI XT g → g 0 13 = g0 0 13 → Ex (fX9_peopleIn_12_l4 fu v1 v2 v3 g L) (fun (r : Int32) (g1 : Nat → Nat → Int32) (L1 : Nat → Nat → Int64) => zI XT g1 ∧ g1 0 13 = g0 0 13) := by
    intro v1 v2 v3 g L hb_v3 hI k0_0
    unfold fX9_peopleIn_12_l4
    refine Ex.loop (fun v => ((0 ≤ (Int32.toInt (v.2.1)) ∧ (Int32.toInt (v.2.1)) ≤ 73)) ∧ (zI XT (v.2.2.1)) ∧ ((v.2.2.1) 0 13 = g0 0 13)) (fun v => 74 - (Int32.toInt (v.2.1))) (by omega) (by show 74 - (Int32.toInt v3) < (fu : Int); omega) ⟨hb_v3, hI, k0_0⟩ (fun k4 v hv ih4 => ?_)
    obtain ⟨v2, v3, g, L⟩ := v
    obtain ⟨hb_v3, hI, k0_0⟩ := hv
    have hb_v3 : (0 ≤ (Int32.toInt v3) ∧ (Int32.toInt v3) ≤ 73) := hb_v3
    have hI : zI XT g := hI
    have k0_0 : g 0 13 = g0 0 13 := k0_0
    have ih4 : ∀ v' : Int32 × Int32 × (Nat → Nat → Int32) × (Nat → Nat → Int64), (((0 ≤ (Int32.toInt (v'.2.1)) ∧ (Int32.toInt (v'.2.1)) ≤ 73)) ∧ (zI XT (v'.2.2.1)) ∧ ((v'.2.2.1) 0 13 = g0 0 13)) → 74 - (Int32.toInt (v'.2.1)) < 74 - (Int32.toInt v3) → 0 < 74 - (Int32.toInt v3) → Ex (k4 v') (fun (r : Int32) (g1 : Nat → Nat → Int32) (L1 : Nat → Nat → Int64) => zI XT g1 ∧ g1 0 13 = g0 0 13) := ih4
    show Ex (fX9_peopleIn_12_s4 fu v1 k4 v2 v3 g L) (fun (r : Int32) (g1 : Nat → Nat → Int32) (L1 : Nat → Nat → Int64) => zI XT g1 ∧ g1 0 13 = g0 0 13)
    unfold fX9_peopleIn_12_s4
    have b1 : 0 ≤ (Int32.toInt (g 12 5)) ∧ (Int32.toInt (g 12 5)) ≤ 72 := hI 12 5 0 72 rfl
    refine Ex.ite (fun c2 => ?_) (fun c2 => ?_)
    ·
      have c2 := icc_le (m := (Int32.toInt (g 12 5))) (n := (Int32.toInt v3)) rfl rfl c2
      exact Ex.ret ⟨hI, k0_0⟩
    ·
      have c2 := icc_nle (m := (Int32.toInt (g 12 5))) (n := (Int32.toInt v3)) rfl rfl c2
      refine Ex.ck (by omega) (by omega) ?_
      have J43 : ∀ (t0 : Int32) (t1 : Int32) (g : Nat → Nat → Int32) (L : Nat → Nat → Int64), (0 ≤ (Int32.toInt v3) ∧ (Int32.toInt v3) ≤ 71) → zI XT g → g 0 13 = g0 0 13 → Ex (fX9_peopleIn_12_p43 fu k4 v1 v3 t0 t1 g L) (fun (r : Int32) (g1 : Nat → Nat → Int32) (L1 : Nat → Nat → Int64) => zI XT g1 ∧ g1 0 13 = g0 0 13) := by
        intro t0 t1 g L hb_v3 hI k0_0
        unfold fX9_peopleIn_12_p43
        generalize z3q : (t1 + t0) = z3
        refine Ex.lti (fun x4 x4e x4i => ?_)
        generalize z5q : (v3 + 1) = z5
        have e6 : (Int32.toInt z5) = (Int32.toInt v3) + 1 := by rw [← z5q]; exact ic_addc rfl (by decide) (by omega) (by omega)
        exact ih4 (x4, z5, g, L) ⟨(show (0 ≤ (Int32.toInt z5) ∧ (Int32.toInt z5) ≤ 73) from by omega), hI, k0_0⟩ (by show 74 - (Int32.toInt z5) < _; omega) (by omega)
      have J42 : ∀ (t0 : Int32) (g : Nat → Nat → Int32) (L : Nat → Nat → Int64), (0 ≤ (Int32.toInt v3) ∧ (Int32.toInt v3) ≤ 71) → zI XT g → g 0 13 = g0 0 13 → Ex (fX9_peopleIn_12_p42 fu k4 v1 v3 t0 g L) (fun (r : Int32) (g1 : Nat → Nat → Int32) (L1 : Nat → Nat → Int64) => zI XT g1 ∧ g1 0 13 = g0 0 13) := by
        intro t0 g L hb_v3 hI k0_0
        unfold fX9_peopleIn_12_p42
        exact J43 0 t0 g L (by omega) hI k0_0
      refine Ex.ite (fun c7 => ?_) (fun c7 => ?_)
      ·
        have c7 := icc_lt (m := (Int32.toInt v1)) (n := (Int32.toInt (g 53 (Int32.toNatClampNeg v3)))) rfl rfl c7
        exact J42 v2 g L (by omega) hI k0_0
      ·
        have c7 := icc_nlt (m := (Int32.toInt v1)) (n := (Int32.toInt (g 53 (Int32.toNatClampNeg v3)))) rfl rfl c7
        refine Ex.ck (by omega) (by omega) ?_
        refine Ex.ite (fun c8 => ?_) (fun c8 => ?_)
        ·
          have c8 := icc_le (m := (Int32.toInt (g 54 (Int32.toNatClampNeg v3)))) (n := (Int32.toInt v1)) rfl rfl c8
          exact J42 v2 g L (by omega) hI k0_0
        ·
          have c8 := icc_nle (m := (Int32.toInt (g 54 (Int32.toNatClampNeg v3)))) (n := (Int32.toInt v1)) rfl rfl c8
          refine Ex.ck (by omega) (by omega) ?_
          exact J43 (g 55 (Int32.toNatClampNeg v3)) v2 g L (by omega) hI k0_0
  exact lp4 p1 0 0 g0 L0 (by decide) hI k0_0
set_option maxHeartbeats 4000000 in
set_option maxRecDepth 100000 in
theorem sX9_busiestMinute_12 (fu : Nat) (hfu : 1180591620717411303424 ≤ fu) (g0 : Nat → Nat → Int32) (L0 : Nat → Nat → Int64) (hI : zI XT g0) : Ex (fX9_busiestMinute_12 fu g0 L0) (fun (r : Int32) (g1 : Nat → Nat → Int32) (L1 : Nat → Nat → Int64) => zI XT g1 ∧ g1 0 13 = g0 0 13) := by
  have k0_0 : g0 0 13 = g0 0 13 := rfl
  unfold fX9_busiestMinute_12
  have lp6 : ∀ (v1 : Int32) (v2 : Int32) (v3 : Int32) (g : Nat → Nat → Int32) (L : Nat → Nat → Int64), (0 ≤ (Int32.toInt v2)) → (0 ≤ (Int32.toInt v3) ∧ (Int32.toInt v3) ≤ 73) → zI XT g → g 0 13 = g0 0 13 → Ex (fX9_busiestMinute_12_l6 fu v1 v2 v3 g L) (fun (r : Int32) (g1 : Nat → Nat → Int32) (L1 : Nat → Nat → Int64) => zI XT g1 ∧ g1 0 13 = g0 0 13) := by
    intro v1 v2 v3 g L hb_v2 hb_v3 hI k0_0
    unfold fX9_busiestMinute_12_l6
    refine Ex.loop (fun v => ((0 ≤ (Int32.toInt (v.2.1)))) ∧ ((0 ≤ (Int32.toInt (v.2.2.1)) ∧ (Int32.toInt (v.2.2.1)) ≤ 73)) ∧ (zI XT (v.2.2.2.1)) ∧ ((v.2.2.2.1) 0 13 = g0 0 13)) (fun v => 74 - (Int32.toInt (v.2.2.1))) (by omega) (by show 74 - (Int32.toInt v3) < (fu : Int); omega) ⟨hb_v2, hb_v3, hI, k0_0⟩ (fun k6 v hv ih6 => ?_)
    obtain ⟨v1, v2, v3, g, L⟩ := v
    obtain ⟨hb_v2, hb_v3, hI, k0_0⟩ := hv
    have hb_v2 : (0 ≤ (Int32.toInt v2)) := hb_v2
    have hb_v3 : (0 ≤ (Int32.toInt v3) ∧ (Int32.toInt v3) ≤ 73) := hb_v3
    have hI : zI XT g := hI
    have k0_0 : g 0 13 = g0 0 13 := k0_0
    have ih6 : ∀ v' : Int32 × Int32 × Int32 × (Nat → Nat → Int32) × (Nat → Nat → Int64), (((0 ≤ (Int32.toInt (v'.2.1)))) ∧ ((0 ≤ (Int32.toInt (v'.2.2.1)) ∧ (Int32.toInt (v'.2.2.1)) ≤ 73)) ∧ (zI XT (v'.2.2.2.1)) ∧ ((v'.2.2.2.1) 0 13 = g0 0 13)) → 74 - (Int32.toInt (v'.2.2.1)) < 74 - (Int32.toInt v3) → 0 < 74 - (Int32.toInt v3) → Ex (k6 v') (fun (r : Int32) (g1 : Nat → Nat → Int32) (L1 : Nat → Nat → Int64) => zI XT g1 ∧ g1 0 13 = g0 0 13) := ih6
    show Ex (fX9_busiestMinute_12_s6 fu k6 v1 v2 v3 g L) (fun (r : Int32) (g1 : Nat → Nat → Int32) (L1 : Nat → Nat → Int64) => zI XT g1 ∧ g1 0 13 = g0 0 13)
    unfold fX9_busiestMinute_12_s6
    have b1 : 0 ≤ (Int32.toInt (g 12 5)) ∧ (Int32.toInt (g 12 5)) ≤ 72 := hI 12 5 0 72 rfl
    refine Ex.ite (fun c2 => ?_) (fun c2 => ?_)
    ·
      have c2 := icc_le (m := (Int32.toInt (g 12 5))) (n := (Int32.toInt v3)) rfl rfl c2
      exact Ex.ret ⟨hI, k0_0⟩
    ·
      have c2 := icc_nle (m := (Int32.toInt (g 12 5))) (n := (Int32.toInt v3)) rfl rfl c2
      refine Ex.ck (by omega) (by omega) ?_
      refine Ex.cb (sX9_peopleIn_12 fu hfu (g 53 (Int32.toNatClampNeg v3)) g L hI) (fun x3 g4 L5 hq7 => ?_)
      obtain ⟨hI, kk0⟩ := hq7
      have hI : zI XT g4 := hI
      have k0_0 : g4 0 13 = g0 0 13 := kk0.trans k0_0
      have J58 : ∀ (v1 : Int32) (v2 : Int32) (g : Nat → Nat → Int32) (L : Nat → Nat → Int64), (0 ≤ (Int32.toInt v2)) → (0 ≤ (Int32.toInt v3) ∧ (Int32.toInt v3) ≤ 71) → zI XT g → g 0 13 = g0 0 13 → Ex (fX9_busiestMinute_12_p58 fu k6 v1 v2 v3 g L) (fun (r : Int32) (g1 : Nat → Nat → Int32) (L1 : Nat → Nat → Int64) => zI XT g1 ∧ g1 0 13 = g0 0 13) := by
        intro v1 v2 g L hb_v2 hb_v3 hI k0_0
        unfold fX9_busiestMinute_12_p58
        generalize z8q : (v3 + 1) = z8
        have e9 : (Int32.toInt z8) = (Int32.toInt v3) + 1 := by rw [← z8q]; exact ic_addc rfl (by decide) (by omega) (by omega)
        exact ih6 (v1, v2, z8, g, L) ⟨(show (0 ≤ (Int32.toInt v2)) from by omega), (show (0 ≤ (Int32.toInt z8) ∧ (Int32.toInt z8) ≤ 73) from by omega), hI, k0_0⟩ (by show 74 - (Int32.toInt z8) < _; omega) (by omega)
      have J48 : ∀ (v4 : Int32) (g : Nat → Nat → Int32) (L : Nat → Nat → Int64), (0 ≤ (Int32.toInt v3) ∧ (Int32.toInt v3) ≤ 71) → (0 ≤ (Int32.toInt v4)) → zI XT g → g 0 13 = g0 0 13 → Ex (fX9_busiestMinute_12_p48 fu k6 v3 v4 g L) (fun (r : Int32) (g1 : Nat → Nat → Int32) (L1 : Nat → Nat → Int64) => zI XT g1 ∧ g1 0 13 = g0 0 13) := by
        intro v4 g L hb_v3 hb_v4 hI k0_0
        unfold fX9_busiestMinute_12_p48
        refine Ex.ck (by omega) (by omega) ?_
        refine Ex.lti (fun x10 x10e x10i => ?_)
        exact J58 x10 v4 g L (by omega) (by omega) hI k0_0
      refine Ex.ite (fun c11 => ?_) (fun c11 => ?_)
      ·
        have c11 := icc_lt (m := (Int32.toInt v2)) (n := (Int32.toInt x3)) rfl rfl c11
        exact J48 x3 g4 L5 (by omega) (by omega) hI k0_0
      ·
        have c11 := icc_nlt (m := (Int32.toInt v2)) (n := (Int32.toInt x3)) rfl rfl c11
        refine Ex.ite (fun c12 => ?_) (fun c12 => ?_)
        ·
          have c12 := icc_eq (m := (Int32.toInt x3)) (n := (Int32.toInt v2)) rfl rfl c12
          refine Ex.ck (by omega) (by omega) ?_
          refine Ex.ite (fun c13 => ?_) (fun c13 => ?_)
          ·
            have c13 := icc_le (m := (Int32.toInt v1)) (n := (Int32.toInt (g4 53 (Int32.toNatClampNeg v3)))) rfl rfl c13
            exact J58 v1 v2 g4 L5 (by omega) (by omega) hI k0_0
          ·
            have c13 := icc_nle (m := (Int32.toInt v1)) (n := (Int32.toInt (g4 53 (Int32.toNatClampNeg v3)))) rfl rfl c13
            exact J48 x3 g4 L5 (by omega) (by omega) hI k0_0
        ·
          have c12 := icc_neq (m := (Int32.toInt x3)) (n := (Int32.toInt v2)) rfl rfl c12
          exact J58 v1 v2 g4 L5 (by omega) (by omega) hI k0_0
  exact lp6 (-1) 0 0 g0 L0 (by decide) (by decide) hI k0_0
