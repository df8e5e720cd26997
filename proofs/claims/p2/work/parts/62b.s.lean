set_option maxHeartbeats 4000000 in
set_option maxRecDepth 100000 in
theorem sX1_begin_8_les (fu : Nat) (hfu : 1099511627776 ≤ fu) (p1 : Int32) (q1_ : Nat) (g0 : Nat → Nat → Int32) (L0 : Nat → Nat → Int64) (hI : zI XT g0) (hp1 : (0 ≤ (Int32.toInt p1) ∧ (Int32.toInt p1) ≤ 11)) (q1_l : 57 ≤ q1_) (q1_h : q1_ < 81) : Ex (fX1_begin_8_les fu p1 q1_ g0 L0) (fun (r : Unit) (g1 : Nat → Nat → Int32) (L1 : Nat → Nat → Int64) => zI XT g1 ∧ g1 0 13 = g0 0 13) := by
  have k0_0 : g0 0 13 = g0 0 13 := rfl
  unfold fX1_begin_8_les
  refine Ex.ck (by omega) (by omega) ?_
  refine Ex.sti (hI.updN rfl) (fun g1 g1e hI => ?_)
  have k0_0 : g1 0 13 = g0 0 13 := by rw [g1e]; exact k0_0
  refine Ex.ck (by omega) (by omega) ?_
  refine Ex.sti (hI.upd rfl (by decide) (by decide)) (fun g2 g2e hI => ?_)
  have k0_0 : g2 0 13 = g0 0 13 := by rw [g2e]; exact k0_0
  refine Ex.lti (fun x3 x3e x3i => ?_)
  have lp25 : ∀ (v1 : Int32) (q2_ : Nat) (v3 : Int32) (v4 : Int32) (g : Nat → Nat → Int32) (L : Nat → Nat → Int64), (0 ≤ (Int32.toInt v1) ∧ (Int32.toInt v1) ≤ 11) → 57 ≤ q2_ → q2_ < 81 → (0 ≤ (Int32.toInt v4) ∧ (Int32.toInt v4) ≤ 6) → zI XT g → g 0 13 = g0 0 13 → Ex (fX1_begin_8_les_l25 fu v1 q2_ v3 v4 g L) (fun (r : Unit) (g1 : Nat → Nat → Int32) (L1 : Nat → Nat → Int64) => zI XT g1 ∧ g1 0 13 = g0 0 13) := by
    intro v1 q2_ v3 v4 g L hb_v1 q2_l q2_h hb_v4 hI k0_0
    unfold fX1_begin_8_les_l25
    refine Ex.loop (fun v => ((0 ≤ (Int32.toInt v1) ∧ (Int32.toInt v1) ≤ 11)) ∧ (57 ≤ q2_) ∧ (q2_ < 81) ∧ ((0 ≤ (Int32.toInt (v.2.1)) ∧ (Int32.toInt (v.2.1)) ≤ 6)) ∧ (zI XT (v.2.2.1)) ∧ ((v.2.2.1) 0 13 = g0 0 13)) (fun v => 7 - (Int32.toInt (v.2.1))) (by omega) (by show 7 - (Int32.toInt v4) < (fu : Int); omega) ⟨hb_v1, q2_l, q2_h, hb_v4, hI, k0_0⟩ (fun k25 v hv ih25 => ?_)
    obtain ⟨v3, v4, g, L⟩ := v
    obtain ⟨hb_v1, q2_l, q2_h, hb_v4, hI, k0_0⟩ := hv
    have hb_v1 : (0 ≤ (Int32.toInt v1) ∧ (Int32.toInt v1) ≤ 11) := hb_v1
    have q2_l : 57 ≤ q2_ := q2_l
    have q2_h : q2_ < 81 := q2_h
    have hb_v4 : (0 ≤ (Int32.toInt v4) ∧ (Int32.toInt v4) ≤ 6) := hb_v4
    have hI : zI XT g := hI
    have k0_0 : g 0 13 = g0 0 13 := k0_0
    have ih25 : ∀ v' : Int32 × Int32 × (Nat → Nat → Int32) × (Nat → Nat → Int64), (((0 ≤ (Int32.toInt v1) ∧ (Int32.toInt v1) ≤ 11)) ∧ (57 ≤ q2_) ∧ (q2_ < 81) ∧ ((0 ≤ (Int32.toInt (v'.2.1)) ∧ (Int32.toInt (v'.2.1)) ≤ 6)) ∧ (zI XT (v'.2.2.1)) ∧ ((v'.2.2.1) 0 13 = g0 0 13)) → 7 - (Int32.toInt (v'.2.1)) < 7 - (Int32.toInt v4) → 0 < 7 - (Int32.toInt v4) → Ex (k25 v') (fun (r : Unit) (g1 : Nat → Nat → Int32) (L1 : Nat → Nat → Int64) => zI XT g1 ∧ g1 0 13 = g0 0 13) := ih25
    show Ex (fX1_begin_8_les_s25 fu v1 q2_ k25 v3 v4 g L) (fun (r : Unit) (g1 : Nat → Nat → Int32) (L1 : Nat → Nat → Int64) => zI XT g1 ∧ g1 0 13 = g0 0 13)
    unfold fX1_begin_8_les_s25
    have b4 : 0 ≤ (Int32.toInt (g q2_ 1)) ∧ (Int32.toInt (g q2_ 1)) ≤ 6 := hI q2_ 1 0 6 (xt_les (by omega) (by omega))
    refine Ex.ite (fun c5 => ?_) (fun c5 => ?_)
    ·
      have c5 := icc_le (m := (Int32.toInt (g q2_ 1))) (n := (Int32.toInt v4)) rfl rfl c5
      have J115 : ∀ (v1 : Int32) (q2_ : Nat) (v3 : Int32) (g : Nat → Nat → Int32) (L : Nat → Nat → Int64), (0 ≤ (Int32.toInt v1) ∧ (Int32.toInt v1) ≤ 11) → 57 ≤ q2_ → q2_ < 81 → zI XT g → g 0 13 = g0 0 13 → Ex (fX1_begin_8_les_p115 fu v1 q2_ v3 g L) (fun (r : Unit) (g1 : Nat → Nat → Int32) (L1 : Nat → Nat → Int64) => zI XT g1 ∧ g1 0 13 = g0 0 13) := by
        intro v1 q2_ v3 g L hb_v1 q2_l q2_h hI k0_0
        unfold fX1_begin_8_les_p115
        refine Ex.ite (fun c6 => ?_) (fun c6 => ?_)
        ·
          have c6 := icc_lt (m := (Int32.toInt (g q2_ 3))) (n := (Int32.toInt v3)) rfl rfl c6
          refine Ex.ck (by omega) (by omega) ?_
          generalize z7q : ((g q2_ 3) + (g 28 (Int32.toNatClampNeg v1))) = z7
          refine Ex.lti (fun x8 x8e x8i => ?_)
          refine Ex.ite (fun c9 => ?_) (fun c9 => ?_)
          ·
            have c9 := icc_le (m := (Int32.toInt v3)) (n := (Int32.toInt x8)) rfl rfl c9
            refine Ex.ck (by omega) (by omega) ?_
            refine Ex.sti (hI.updN rfl) (fun g10 g10e hI => ?_)
            have k0_0 : g10 0 13 = g0 0 13 := by rw [g10e]; exact k0_0
            refine Ex.cb (sX1_firstComingAt_8_les fu hfu v3 q2_ g10 L hI (by omega) (by omega)) (fun x11 g12 L13 hq15 => ?_)
            obtain ⟨hI, kk0, rb_⟩ := hq15
            have b16 : (-1) ≤ (Int32.toInt x11) ∧ (Int32.toInt x11) ≤ 11 := rb_
            have hI : zI XT g12 := hI
            have k0_0 : g12 0 13 = g0 0 13 := kk0.trans k0_0
            refine Ex.ck (by omega) (by omega) ?_
            refine Ex.sti (hI.upd rfl (by omega) (by omega)) (fun g17 g17e hI => ?_)
            have k0_0 : g17 0 13 = g0 0 13 := by rw [g17e]; exact k0_0
            exact Ex.ret ⟨hI, k0_0⟩
          ·
            have c9 := icc_nle (m := (Int32.toInt v3)) (n := (Int32.toInt x8)) rfl rfl c9
            refine Ex.ck (by omega) (by omega) ?_
            refine Ex.sti (hI.updN rfl) (fun g18 g18e hI => ?_)
            have k0_0 : g18 0 13 = g0 0 13 := by rw [g18e]; exact k0_0
            exact Ex.ret ⟨hI, k0_0⟩
        ·
          have c6 := icc_nlt (m := (Int32.toInt (g q2_ 3))) (n := (Int32.toInt v3)) rfl rfl c6
          exact Ex.ret ⟨hI, k0_0⟩
      refine Ex.ite (fun c19 => ?_) (fun c19 => ?_)
      ·
        have c19 := icc_eq (m := (Int32.toInt (g q2_ 9))) (n := 1) rfl (by decide) c19
        refine Ex.cb (sX1_comingOf_8 fu hfu (g q2_ 10) (g q2_ 1) v3 g L hI (by omega)) (fun x20 g21 L22 hq24 => ?_)
        obtain ⟨hI, kk0⟩ := hq24
        have hI : zI XT g21 := hI
        have k0_0 : g21 0 13 = g0 0 13 := kk0.trans k0_0
        exact J115 v1 q2_ x20 g21 L22 (by omega) (by omega) (by omega) hI k0_0
      ·
        have c19 := icc_neq (m := (Int32.toInt (g q2_ 9))) (n := 1) rfl (by decide) c19
        exact J115 v1 q2_ v3 g L (by omega) (by omega) (by omega) hI k0_0
    ·
      have c5 := icc_nle (m := (Int32.toInt (g q2_ 1))) (n := (Int32.toInt v4)) rfl rfl c5
      refine Ex.ck (by omega) (by omega) ?_
      have b25 : 0 ≤ (Int32.toInt (g (q2_ + 24) (Int32.toNatClampNeg v4))) ∧ (Int32.toInt (g (q2_ + 24) (Int32.toNatClampNeg v4))) ≤ 11 := hI (q2_ + 24) _ 0 11 (xt_wai (by omega))
      refine Ex.lti (fun x26 x26e x26i => ?_)
      refine Ex.ck (by omega) (by omega) ?_
      refine Ex.cb (sX1_way_8 fu hfu x26 v1 g L hI (by omega) (by omega)) (fun x27 g28 L29 hq31 => ?_)
      obtain ⟨hI, kk0, kk1⟩ := hq31
      have hI : zI XT g28 := hI
      have k0_0 : g28 0 13 = g0 0 13 := kk1.trans k0_0
      generalize z32q : ((g 44 (Int32.toNatClampNeg x26)) + x27) = z32
      refine Ex.ck (by omega) (by omega) ?_
      generalize z33q : (z32 - (g28 26 (Int32.toNatClampNeg v1))) = z33
      refine Ex.ck (by omega) (by omega) ?_
      refine Ex.sti (hI.updN rfl) (fun g34 g34e hI => ?_)
      have k0_0 : g34 0 13 = g0 0 13 := by rw [g34e]; exact k0_0
      refine Ex.ck (by omega) (by omega) ?_
      generalize z35q : (if v3 < (g34 47 (Int32.toNatClampNeg v4)) then (g34 47 (Int32.toNatClampNeg v4)) else v3) = z35
      have b36 := ic_max (x := v3) (y := (g34 47 (Int32.toNatClampNeg v4))) (m := (Int32.toInt v3)) (n := (Int32.toInt (g34 47 (Int32.toNatClampNeg v4)))) rfl rfl
      rw [z35q] at b36
      refine Ex.lti (fun x37 x37e x37i => ?_)
      generalize z38q : (v4 + 1) = z38
      have e39 : (Int32.toInt z38) = (Int32.toInt v4) + 1 := by rw [← z38q]; exact ic_addc rfl (by decide) (by omega) (by omega)
      exact ih25 (x37, z38, g34, L29) ⟨(show (0 ≤ (Int32.toInt v1) ∧ (Int32.toInt v1) ≤ 11) from by omega), (show 57 ≤ q2_ from by omega), (show q2_ < 81 from by omega), (show (0 ≤ (Int32.toInt z38) ∧ (Int32.toInt z38) ≤ 6) from by omega), hI, k0_0⟩ (by show 7 - (Int32.toInt z38) < _; omega) (by omega)
  exact lp25 p1 q1_ x3 0 g2 L0 (by omega) (by omega) (by omega) (by decide) hI k0_0
