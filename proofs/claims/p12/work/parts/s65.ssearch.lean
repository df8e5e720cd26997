set_option maxHeartbeats 4000000 in
set_option maxRecDepth 100000 in
theorem sX2_isIn (fu : Nat) (hfu : 1180591620717411303424 ≤ fu) (p1 : Int32) (p2 : Int32) (g0 : Nat → Nat → Int32) (L0 : Nat → Nat → Int64) (hI : zI XT g0) : Ex (fX2_isIn fu p1 p2 g0 L0) (fun (r : Int32) (g1 : Nat → Nat → Int32) (L1 : Nat → Nat → Int64) => zI XT g1 ∧ g1 0 13 = g0 0 13 ∧ (0 ≤ (Int32.toInt r) ∧ (Int32.toInt r) ≤ 1)) := by
  have k0_0 : g0 0 13 = g0 0 13 := rfl
  unfold fX2_isIn
  generalize z1q : ((p1 : Int32) >>> ((p2 : Int32) &&& 31) : Int32) = z1
  generalize z2q : (z1 &&& 1) = z2
  have b3 : 0 ≤ (Int32.toInt z2) ∧ (Int32.toInt z2) ≤ 1 := by rw [← z2q]; exact ic_and1 _
  have J13 : ∀ (t0 : Int32) (g : Nat → Nat → Int32) (L : Nat → Nat → Int64), (0 ≤ (Int32.toInt t0) ∧ (Int32.toInt t0) ≤ 1) → zI XT g → g 0 13 = g0 0 13 → Ex (fX2_isIn_p13 fu t0 g L) (fun (r : Int32) (g1 : Nat → Nat → Int32) (L1 : Nat → Nat → Int64) => zI XT g1 ∧ g1 0 13 = g0 0 13 ∧ (0 ≤ (Int32.toInt r) ∧ (Int32.toInt r) ≤ 1)) := by
    intro t0 g L hb_t0 hI k0_0
    unfold fX2_isIn_p13
    refine Ex.ckb (z_bool (by omega)) ?_
    exact Ex.ret ⟨hI, k0_0, (by omega)⟩
  refine Ex.ite (fun c4 => ?_) (fun c4 => ?_)
  ·
    have c4 := icc_eq (m := (Int32.toInt z2)) (n := 0) rfl (by decide) c4
    exact J13 0 g0 L0 (by decide) hI k0_0
  ·
    have c4 := icc_neq (m := (Int32.toInt z2)) (n := 0) rfl (by decide) c4
    exact J13 1 g0 L0 (by decide) hI k0_0
set_option maxHeartbeats 4000000 in
set_option maxRecDepth 100000 in
theorem sX2_findAsked_10 (fu : Nat) (hfu : 1180591620717411303424 ≤ fu) (g0 : Nat → Nat → Int32) (L0 : Nat → Nat → Int64) (hI : zI XT g0) : Ex (fX2_findAsked_10 fu g0 L0) (fun (r : Unit) (g1 : Nat → Nat → Int32) (L1 : Nat → Nat → Int64) => zI XT g1 ∧ g1 0 13 = g0 0 13) := by
  have k0_0 : g0 0 13 = g0 0 13 := rfl
  unfold fX2_findAsked_10
  have b1 : 0 ≤ (Int32.toInt (g0 10 5)) ∧ (Int32.toInt (g0 10 5)) ≤ 11 := hI 10 5 0 11 rfl
  generalize z2q : ((1 : Int32) <<< (((g0 10 5) : Int32) &&& 31) : Int32) = z2
  refine Ex.sti (hI.updN rfl) (fun g3 g3e hI => ?_)
  have k0_0 : g3 0 13 = g0 0 13 := by rw [g3e]; exact k0_0
  have b4 : 0 ≤ (Int32.toInt (g3 10 5)) ∧ (Int32.toInt (g3 10 5)) ≤ 11 := hI 10 5 0 11 rfl
  refine Ex.lti (fun x5 x5e x5i => ?_)
  have lp15 : ∀ (v1 : Int32) (g : Nat → Nat → Int32) (L : Nat → Nat → Int64), ((-1) ≤ (Int32.toInt v1) ∧ (Int32.toInt v1) ≤ 11) → zI XT g → g 0 13 = g0 0 13 → Ex (fX2_findAsked_10_l15 fu v1 g L) (fun (r : Unit) (g1 : Nat → Nat → Int32) (L1 : Nat → Nat → Int64) => zI XT g1 ∧ g1 0 13 = g0 0 13) := by
    intro v1 g L hb_v1 hI k0_0
    unfold fX2_findAsked_10_l15
    refine Ex.loop (fun v => (((-1) ≤ (Int32.toInt (v.1)) ∧ (Int32.toInt (v.1)) ≤ 11)) ∧ (zI XT (v.2.1)) ∧ ((v.2.1) 0 13 = g0 0 13)) (fun v => (Int32.toInt (v.1)) - (-2)) (by omega) (by show (Int32.toInt v1) - (-2) < (fu : Int); omega) ⟨hb_v1, hI, k0_0⟩ (fun k15 v hv ih15 => ?_)
    obtain ⟨v1, g, L⟩ := v
    obtain ⟨hb_v1, hI, k0_0⟩ := hv
    have hb_v1 : ((-1) ≤ (Int32.toInt v1) ∧ (Int32.toInt v1) ≤ 11) := hb_v1
    have hI : zI XT g := hI
    have k0_0 : g 0 13 = g0 0 13 := k0_0
    have ih15 : ∀ v' : Int32 × (Nat → Nat → Int32) × (Nat → Nat → Int64), ((((-1) ≤ (Int32.toInt (v'.1)) ∧ (Int32.toInt (v'.1)) ≤ 11)) ∧ (zI XT (v'.2.1)) ∧ ((v'.2.1) 0 13 = g0 0 13)) → (Int32.toInt (v'.1)) - (-2) < (Int32.toInt v1) - (-2) → 0 < (Int32.toInt v1) - (-2) → Ex (k15 v') (fun (r : Unit) (g1 : Nat → Nat → Int32) (L1 : Nat → Nat → Int64) => zI XT g1 ∧ g1 0 13 = g0 0 13) := ih15
    show Ex (fX2_findAsked_10_s15 fu k15 v1 g L) (fun (r : Unit) (g1 : Nat → Nat → Int32) (L1 : Nat → Nat → Int64) => zI XT g1 ∧ g1 0 13 = g0 0 13)
    unfold fX2_findAsked_10_s15
    refine Ex.ite (fun c6 => ?_) (fun c6 => ?_)
    ·
      have c6 := icc_lt (m := (Int32.toInt v1)) (n := 0) rfl (by decide) c6
      exact Ex.ret ⟨hI, k0_0⟩
    ·
      have c6 := icc_nlt (m := (Int32.toInt v1)) (n := 0) rfl (by decide) c6
      refine Ex.cb (sX2_isIn fu hfu (g 10 7) v1 g L hI) (fun x7 g8 L9 hq11 => ?_)
      obtain ⟨hI, kk0, rb_⟩ := hq11
      have b12 : 0 ≤ (Int32.toInt x7) ∧ (Int32.toInt x7) ≤ 1 := rb_
      have hI : zI XT g8 := hI
      have k0_0 : g8 0 13 = g0 0 13 := kk0.trans k0_0
      have J54 : ∀ (g : Nat → Nat → Int32) (L : Nat → Nat → Int64), (0 ≤ (Int32.toInt v1) ∧ (Int32.toInt v1) ≤ 11) → zI XT g → g 0 13 = g0 0 13 → Ex (fX2_findAsked_10_p54 fu k15 v1 g L) (fun (r : Unit) (g1 : Nat → Nat → Int32) (L1 : Nat → Nat → Int64) => zI XT g1 ∧ g1 0 13 = g0 0 13) := by
        intro g L hb_v1 hI k0_0
        unfold fX2_findAsked_10_p54
        generalize z13q : (v1 + (-1)) = z13
        have e14 : (Int32.toInt z13) = (Int32.toInt v1) + (-1) := by rw [← z13q]; exact ic_addc rfl (by decide) (by omega) (by omega)
        exact ih15 (z13, g, L) ⟨(show ((-1) ≤ (Int32.toInt z13) ∧ (Int32.toInt z13) ≤ 11) from by omega), hI, k0_0⟩ (by show (Int32.toInt z13) - (-2) < _; omega) (by omega)
      refine Ex.ite (fun c15 => ?_) (fun c15 => ?_)
      ·
        have c15 := icc_eq (m := (Int32.toInt x7)) (n := 0) rfl (by decide) c15
        exact J54 g8 L9 (by omega) hI k0_0
      ·
        have c15 := icc_neq (m := (Int32.toInt x7)) (n := 0) rfl (by decide) c15
        refine Ex.ck (by omega) (by omega) ?_
        refine Ex.ltn (fun q16 q16e => ?_)
        have q16b : 57 ≤ q16 ∧ q16 < 69 := by have := Nat.mod_lt (Int32.toNatClampNeg v1) (show 12 > 0 by decide); omega
        generalize z17q : ((g8 10 7) ||| (g8 q16 2)) = z17
        refine Ex.sti (hI.updN rfl) (fun g18 g18e hI => ?_)
        have k0_0 : g18 0 13 = g0 0 13 := by rw [g18e]; exact k0_0
        exact J54 g18 L9 (by omega) hI k0_0
  exact lp15 x5 g3 L0 (by omega) hI k0_0
set_option maxHeartbeats 4000000 in
set_option maxRecDepth 100000 in
theorem sX2_tryGapsOf_10_L1 (fu : Nat) (hfu : 1180591620717411303424 ≤ fu) (p1 : Int32) (p2 : Int32) (g0 : Nat → Nat → Int32) (L0 : Nat → Nat → Int64) (hI : zI XT g0) (hp1 : (12 ≤ (Int32.toInt p1) ∧ (Int32.toInt p1) ≤ 11)) : Ex (fX2_tryGapsOf_10 fu (fX2_tryFrom_10 fu 0) p1 p2 g0 L0) (fun (r : Unit) (g1 : Nat → Nat → Int32) (L1 : Nat → Nat → Int64) => zI XT g1 ∧ g1 0 13 = g0 0 13) := by
  exfalso; omega
set_option maxHeartbeats 4000000 in
set_option maxRecDepth 100000 in
theorem sX2_takeIfOnTime_10 (fu : Nat) (hfu : 1180591620717411303424 ≤ fu) (p1 : Int32) (g0 : Nat → Nat → Int32) (L0 : Nat → Nat → Int64) (hI : zI XT g0) : Ex (fX2_takeIfOnTime_10 fu p1 g0 L0) (fun (r : Unit) (g1 : Nat → Nat → Int32) (L1 : Nat → Nat → Int64) => zI XT g1 ∧ g1 0 13 = g0 0 13) := by
  have k0_0 : g0 0 13 = g0 0 13 := rfl
  unfold fX2_takeIfOnTime_10
  have b1 : 0 ≤ (Int32.toInt (g0 10 5)) ∧ (Int32.toInt (g0 10 5)) ≤ 11 := hI 10 5 0 11 rfl
  refine Ex.cb (sX1_late_8 fu hfu (g0 10 5) g0 L0 hI (by omega)) (fun x2 g3 L4 hq6 => ?_)
  obtain ⟨hI, kk0⟩ := hq6
  have hI : zI XT g3 := hI
  have k0_0 : g3 0 13 = g0 0 13 := kk0.trans k0_0
  have J41 : ∀ (g : Nat → Nat → Int32) (L : Nat → Nat → Int64), zI XT g → g 0 13 = g0 0 13 → Ex (fX2_takeIfOnTime_10_p41 fu g L) (fun (r : Unit) (g1 : Nat → Nat → Int32) (L1 : Nat → Nat → Int64) => zI XT g1 ∧ g1 0 13 = g0 0 13) := by
    intro g L hI k0_0
    unfold fX2_takeIfOnTime_10_p41
    exact Ex.ret ⟨hI, k0_0⟩
  refine Ex.ite (fun c7 => ?_) (fun c7 => ?_)
  ·
    have c7 := icc_lt (m := (Int32.toInt (g3 10 6))) (n := (Int32.toInt x2)) rfl rfl c7
    exact J41 g3 L4 hI k0_0
  ·
    have c7 := icc_nlt (m := (Int32.toInt (g3 10 6))) (n := (Int32.toInt x2)) rfl rfl c7
    refine Ex.sti (hI.updN rfl) (fun g8 g8e hI => ?_)
    have k0_0 : g8 0 13 = g0 0 13 := by rw [g8e]; exact k0_0
    refine Ex.stA (hI.cpy (fun _ _ => rfl)) (fun g9 g9e hI => ?_)
    have k0_0 : g9 0 13 = g0 0 13 := by rw [g9e]; exact k0_0
    exact J41 g9 L4 hI k0_0
set_option maxHeartbeats 4000000 in
set_option maxRecDepth 100000 in
theorem sX2_tryFrom_10_L1 (fu : Nat) (hfu : 1180591620717411303424 ≤ fu) (p1 : Int32) (p2 : Int32) (g0 : Nat → Nat → Int32) (L0 : Nat → Nat → Int64) (hI : zI XT g0) (hp1 : (12 ≤ (Int32.toInt p1) ∧ (Int32.toInt p1) ≤ 12)) : Ex (fX2_tryFrom_10 fu 1 p1 p2 g0 L0) (fun (r : Unit) (g1 : Nat → Nat → Int32) (L1 : Nat → Nat → Int64) => zI XT g1 ∧ g1 0 13 = g0 0 13) := by
  have k0_0 : g0 0 13 = g0 0 13 := rfl
  rw [fX2_tryFrom_10_succ]
  unfold fX2_tryFrom_10B
  refine Ex.ite (fun c1 => ?_) (fun c1 => ?_)
  ·
    have c1 := icc_lt (m := (Int32.toInt p2)) (n := (Int32.toInt (g0 10 8))) rfl rfl c1
    have b2 : 0 ≤ (Int32.toInt (g0 10 5)) ∧ (Int32.toInt (g0 10 5)) ≤ 11 := hI 10 5 0 11 rfl
    have J89 : ∀ (g : Nat → Nat → Int32) (L : Nat → Nat → Int64), zI XT g → g 0 13 = g0 0 13 → Ex (fX2_tryFrom_10_p89 fu (fX2_tryFrom_10 fu 0) g L) (fun (r : Unit) (g1 : Nat → Nat → Int32) (L1 : Nat → Nat → Int64) => zI XT g1 ∧ g1 0 13 = g0 0 13) := by
      intro g L hI k0_0
      unfold fX2_tryFrom_10_p89
      exact Ex.ret ⟨hI, k0_0⟩
    have J23 : ∀ (v2 : Int32) (g : Nat → Nat → Int32) (L : Nat → Nat → Int64), zI XT g → g 0 13 = g0 0 13 → Ex (fX2_tryFrom_10_p23 fu (fX2_tryFrom_10 fu 0) v2 g L) (fun (r : Unit) (g1 : Nat → Nat → Int32) (L1 : Nat → Nat → Int64) => zI XT g1 ∧ g1 0 13 = g0 0 13) := by
      intro v2 g L hI k0_0
      unfold fX2_tryFrom_10_p23
      refine Ex.cb (sX2_takeIfOnTime_10 fu hfu v2 g L hI) (fun x3 g4 L5 hq7 => ?_)
      obtain ⟨hI, kk0⟩ := hq7
      have hI : zI XT g4 := hI
      have k0_0 : g4 0 13 = g0 0 13 := kk0.trans k0_0
      exact J89 g4 L5 hI k0_0
    refine Ex.ite (fun c8 => ?_) (fun c8 => ?_)
    ·
      have c8 := icc_lt (m := (Int32.toInt (g0 10 5))) (n := (Int32.toInt p1)) rfl rfl c8
      exact J23 p2 g0 L0 hI k0_0
    ·
      have c8 := icc_nlt (m := (Int32.toInt (g0 10 5))) (n := (Int32.toInt p1)) rfl rfl c8
      omega
  ·
    have c1 := icc_nlt (m := (Int32.toInt p2)) (n := (Int32.toInt (g0 10 8))) rfl rfl c1
    exact Ex.ret ⟨hI, k0_0⟩
set_option maxHeartbeats 4000000 in
set_option maxRecDepth 100000 in
theorem sX2_tryGapsOf_10_L2 (fu : Nat) (hfu : 1180591620717411303424 ≤ fu) (p1 : Int32) (p2 : Int32) (g0 : Nat → Nat → Int32) (L0 : Nat → Nat → Int64) (hI : zI XT g0) (hp1 : (11 ≤ (Int32.toInt p1) ∧ (Int32.toInt p1) ≤ 11)) : Ex (fX2_tryGapsOf_10 fu (fX2_tryFrom_10 fu 1) p1 p2 g0 L0) (fun (r : Unit) (g1 : Nat → Nat → Int32) (L1 : Nat → Nat → Int64) => zI XT g1 ∧ g1 0 13 = g0 0 13) := by
  have k0_0 : g0 0 13 = g0 0 13 := rfl
  unfold fX2_tryGapsOf_10
  have lp5 : ∀ (v1 : Int32) (v2 : Int32) (v3 : Int32) (v4 : Int32) (g : Nat → Nat → Int32) (L : Nat → Nat → Int64), (11 ≤ (Int32.toInt v1) ∧ (Int32.toInt v1) ≤ 11) → (0 ≤ (Int32.toInt v4) ∧ (Int32.toInt v4) ≤ 5) → zI XT g → g 0 13 = g0 0 13 → Ex (fX2_tryGapsOf_10_l5 fu (fX2_tryFrom_10 fu 1) v1 v2 v3 v4 g L) (fun (r : Unit) (g1 : Nat → Nat → Int32) (L1 : Nat → Nat → Int64) => zI XT g1 ∧ g1 0 13 = g0 0 13) := by
    intro v1 v2 v3 v4 g L hb_v1 hb_v4 hI k0_0
    unfold fX2_tryGapsOf_10_l5
    refine Ex.loop (fun v => ((11 ≤ (Int32.toInt v1) ∧ (Int32.toInt v1) ≤ 11)) ∧ ((0 ≤ (Int32.toInt (v.2.1)) ∧ (Int32.toInt (v.2.1)) ≤ 5)) ∧ (zI XT (v.2.2.1)) ∧ ((v.2.2.1) 0 13 = g0 0 13)) (fun v => 6 - (Int32.toInt (v.2.1))) (by omega) (by show 6 - (Int32.toInt v4) < (fu : Int); omega) ⟨hb_v1, hb_v4, hI, k0_0⟩ (fun k5 v hv ih5 => ?_)
    obtain ⟨v3, v4, g, L⟩ := v
    obtain ⟨hb_v1, hb_v4, hI, k0_0⟩ := hv
    have hb_v1 : (11 ≤ (Int32.toInt v1) ∧ (Int32.toInt v1) ≤ 11) := hb_v1
    have hb_v4 : (0 ≤ (Int32.toInt v4) ∧ (Int32.toInt v4) ≤ 5) := hb_v4
    have hI : zI XT g := hI
    have k0_0 : g 0 13 = g0 0 13 := k0_0
    have ih5 : ∀ v' : Int32 × Int32 × (Nat → Nat → Int32) × (Nat → Nat → Int64), (((11 ≤ (Int32.toInt v1) ∧ (Int32.toInt v1) ≤ 11)) ∧ ((0 ≤ (Int32.toInt (v'.2.1)) ∧ (Int32.toInt (v'.2.1)) ≤ 5)) ∧ (zI XT (v'.2.2.1)) ∧ ((v'.2.2.1) 0 13 = g0 0 13)) → 6 - (Int32.toInt (v'.2.1)) < 6 - (Int32.toInt v4) → 0 < 6 - (Int32.toInt v4) → Ex (k5 v') (fun (r : Unit) (g1 : Nat → Nat → Int32) (L1 : Nat → Nat → Int64) => zI XT g1 ∧ g1 0 13 = g0 0 13) := ih5
    show Ex (fX2_tryGapsOf_10_s5 fu (fX2_tryFrom_10 fu 1) v1 v2 k5 v3 v4 g L) (fun (r : Unit) (g1 : Nat → Nat → Int32) (L1 : Nat → Nat → Int64) => zI XT g1 ∧ g1 0 13 = g0 0 13)
    unfold fX2_tryGapsOf_10_s5
    refine Ex.ite (fun c1 => ?_) (fun c1 => ?_)
    ·
      have c1 := icc_lt (m := 4) (n := (Int32.toInt v4)) (by decide) rfl c1
      exact Ex.ret ⟨hI, k0_0⟩
    ·
      have c1 := icc_nlt (m := 4) (n := (Int32.toInt v4)) (by decide) rfl c1
      refine Ex.ck (by omega) (by omega) ?_
      refine Ex.sti (hI.updN rfl) (fun g2 g2e hI => ?_)
      have k0_0 : g2 0 13 = g0 0 13 := by rw [g2e]; exact k0_0
      refine Ex.cb (sX1_runOne_8 fu hfu v1 g2 L hI (by omega)) (fun x3 g4 L5 hq7 => ?_)
      obtain ⟨hI, kk0⟩ := hq7
      have hI : zI XT g4 := hI
      have k0_0 : g4 0 13 = g0 0 13 := kk0.trans k0_0
      refine Ex.ck (by omega) (by omega) ?_
      have J64 : ∀ (v3 : Int32) (g : Nat → Nat → Int32) (L : Nat → Nat → Int64), (11 ≤ (Int32.toInt v1) ∧ (Int32.toInt v1) ≤ 11) → (0 ≤ (Int32.toInt v4) ∧ (Int32.toInt v4) ≤ 4) → zI XT g → g 0 13 = g0 0 13 → Ex (fX2_tryGapsOf_10_p64 fu (fX2_tryFrom_10 fu 1) k5 v1 v2 v3 v4 g L) (fun (r : Unit) (g1 : Nat → Nat → Int32) (L1 : Nat → Nat → Int64) => zI XT g1 ∧ g1 0 13 = g0 0 13) := by
        intro v3 g L hb_v1 hb_v4 hI k0_0
        unfold fX2_tryGapsOf_10_p64
        generalize z8q : (v4 + 1) = z8
        have e9 : (Int32.toInt z8) = (Int32.toInt v4) + 1 := by rw [← z8q]; exact ic_addc rfl (by decide) (by omega) (by omega)
        exact ih5 (v3, z8, g, L) ⟨(show (11 ≤ (Int32.toInt v1) ∧ (Int32.toInt v1) ≤ 11) from by omega), (show (0 ≤ (Int32.toInt z8) ∧ (Int32.toInt z8) ≤ 5) from by omega), hI, k0_0⟩ (by show 6 - (Int32.toInt z8) < _; omega) (by omega)
      refine Ex.ite (fun c10 => ?_) (fun c10 => ?_)
      ·
        have c10 := icc_eq (m := (Int32.toInt (g4 44 (Int32.toNatClampNeg v1)))) (n := (Int32.toInt v3)) rfl rfl c10
        exact J64 v3 g4 L5 (by omega) (by omega) hI k0_0
      ·
        have c10 := icc_neq (m := (Int32.toInt (g4 44 (Int32.toNatClampNeg v1)))) (n := (Int32.toInt v3)) rfl rfl c10
        refine Ex.ck (by omega) (by omega) ?_
        refine Ex.lti (fun x11 x11e x11i => ?_)
        generalize z12q : (v1 + 1) = z12
        have e13 : (Int32.toInt z12) = (Int32.toInt v1) + 1 := by rw [← z12q]; exact ic_addc rfl (by decide) (by omega) (by omega)
        generalize z14q : (v2 + v4) = z14
        refine Ex.cb (sX2_tryFrom_10_L1 fu hfu z12 z14 g4 L5 hI (by omega)) (fun x15 g16 L17 hq19 => ?_)
        obtain ⟨hI, kk0⟩ := hq19
        have hI : zI XT g16 := hI
        have k0_0 : g16 0 13 = g0 0 13 := kk0.trans k0_0
        exact J64 x11 g16 L17 (by omega) (by omega) hI k0_0
  exact lp5 p1 p2 (-1) 0 g0 L0 (by omega) (by decide) hI k0_0
set_option maxHeartbeats 4000000 in
set_option maxRecDepth 100000 in
theorem sX2_tryFrom_10_L2 (fu : Nat) (hfu : 1180591620717411303424 ≤ fu) (p1 : Int32) (p2 : Int32) (g0 : Nat → Nat → Int32) (L0 : Nat → Nat → Int64) (hI : zI XT g0) (hp1 : (11 ≤ (Int32.toInt p1) ∧ (Int32.toInt p1) ≤ 12)) : Ex (fX2_tryFrom_10 fu 2 p1 p2 g0 L0) (fun (r : Unit) (g1 : Nat → Nat → Int32) (L1 : Nat → Nat → Int64) => zI XT g1 ∧ g1 0 13 = g0 0 13) := by
  have k0_0 : g0 0 13 = g0 0 13 := rfl
  rw [fX2_tryFrom_10_succ]
  unfold fX2_tryFrom_10B
  refine Ex.ite (fun c1 => ?_) (fun c1 => ?_)
  ·
    have c1 := icc_lt (m := (Int32.toInt p2)) (n := (Int32.toInt (g0 10 8))) rfl rfl c1
    have b2 : 0 ≤ (Int32.toInt (g0 10 5)) ∧ (Int32.toInt (g0 10 5)) ≤ 11 := hI 10 5 0 11 rfl
    have J89 : ∀ (g : Nat → Nat → Int32) (L : Nat → Nat → Int64), zI XT g → g 0 13 = g0 0 13 → Ex (fX2_tryFrom_10_p89 fu (fX2_tryFrom_10 fu 1) g L) (fun (r : Unit) (g1 : Nat → Nat → Int32) (L1 : Nat → Nat → Int64) => zI XT g1 ∧ g1 0 13 = g0 0 13) := by
      intro g L hI k0_0
      unfold fX2_tryFrom_10_p89
      exact Ex.ret ⟨hI, k0_0⟩
    have J23 : ∀ (v2 : Int32) (g : Nat → Nat → Int32) (L : Nat → Nat → Int64), zI XT g → g 0 13 = g0 0 13 → Ex (fX2_tryFrom_10_p23 fu (fX2_tryFrom_10 fu 1) v2 g L) (fun (r : Unit) (g1 : Nat → Nat → Int32) (L1 : Nat → Nat → Int64) => zI XT g1 ∧ g1 0 13 = g0 0 13) := by
      intro v2 g L hI k0_0
      unfold fX2_tryFrom_10_p23
      refine Ex.cb (sX2_takeIfOnTime_10 fu hfu v2 g L hI) (fun x3 g4 L5 hq7 => ?_)
      obtain ⟨hI, kk0⟩ := hq7
      have hI : zI XT g4 := hI
      have k0_0 : g4 0 13 = g0 0 13 := kk0.trans k0_0
      exact J89 g4 L5 hI k0_0
    refine Ex.ite (fun c8 => ?_) (fun c8 => ?_)
    ·
      have c8 := icc_lt (m := (Int32.toInt (g0 10 5))) (n := (Int32.toInt p1)) rfl rfl c8
      exact J23 p2 g0 L0 hI k0_0
    ·
      have c8 := icc_nlt (m := (Int32.toInt (g0 10 5))) (n := (Int32.toInt p1)) rfl rfl c8
      refine Ex.ite (fun c9 => ?_) (fun c9 => ?_)
      ·
        have c9 := icc_lt (m := (Int32.toInt p1)) (n := 12) rfl (by decide) c9
        refine Ex.cb (sX2_isIn fu hfu (g0 10 7) p1 g0 L0 hI) (fun x10 g11 L12 hq14 => ?_)
        obtain ⟨hI, kk0, rb_⟩ := hq14
        have b15 : 0 ≤ (Int32.toInt x10) ∧ (Int32.toInt x10) ≤ 1 := rb_
        have hI : zI XT g11 := hI
        have k0_0 : g11 0 13 = g0 0 13 := kk0.trans k0_0
        refine Ex.ite (fun c16 => ?_) (fun c16 => ?_)
        ·
          have c16 := icc_eq (m := (Int32.toInt x10)) (n := 0) rfl (by decide) c16
          generalize z17q : (p1 + 1) = z17
          have e18 : (Int32.toInt z17) = (Int32.toInt p1) + 1 := by rw [← z17q]; exact ic_addc rfl (by decide) (by omega) (by omega)
          refine Ex.cb (sX2_tryFrom_10_L1 fu hfu z17 p2 g11 L12 hI (by omega)) (fun x19 g20 L21 hq23 => ?_)
          obtain ⟨hI, kk0⟩ := hq23
          have hI : zI XT g20 := hI
          have k0_0 : g20 0 13 = g0 0 13 := kk0.trans k0_0
          exact J89 g20 L21 hI k0_0
        ·
          have c16 := icc_neq (m := (Int32.toInt x10)) (n := 0) rfl (by decide) c16
          refine Ex.cb (sX2_isIn fu hfu (g11 10 4) p1 g11 L12 hI) (fun x24 g25 L26 hq28 => ?_)
          obtain ⟨hI, kk0, rb_⟩ := hq28
          have b29 : 0 ≤ (Int32.toInt x24) ∧ (Int32.toInt x24) ≤ 1 := rb_
          have hI : zI XT g25 := hI
          have k0_0 : g25 0 13 = g0 0 13 := kk0.trans k0_0
          refine Ex.ite (fun c30 => ?_) (fun c30 => ?_)
          ·
            have c30 := icc_eq (m := (Int32.toInt x24)) (n := 0) rfl (by decide) c30
            refine Ex.cb (sX1_runOne_8 fu hfu p1 g25 L26 hI (by omega)) (fun x31 g32 L33 hq35 => ?_)
            obtain ⟨hI, kk0⟩ := hq35
            have hI : zI XT g32 := hI
            have k0_0 : g32 0 13 = g0 0 13 := kk0.trans k0_0
            generalize z36q : (p1 + 1) = z36
            have e37 : (Int32.toInt z36) = (Int32.toInt p1) + 1 := by rw [← z36q]; exact ic_addc rfl (by decide) (by omega) (by omega)
            refine Ex.cb (sX2_tryFrom_10_L1 fu hfu z36 p2 g32 L33 hI (by omega)) (fun x38 g39 L40 hq42 => ?_)
            obtain ⟨hI, kk0⟩ := hq42
            have hI : zI XT g39 := hI
            have k0_0 : g39 0 13 = g0 0 13 := kk0.trans k0_0
            exact J89 g39 L40 hI k0_0
          ·
            have c30 := icc_neq (m := (Int32.toInt x24)) (n := 0) rfl (by decide) c30
            refine Ex.cb (sX2_tryGapsOf_10_L2 fu hfu p1 p2 g25 L26 hI (by omega)) (fun x43 g44 L45 hq47 => ?_)
            obtain ⟨hI, kk0⟩ := hq47
            have hI : zI XT g44 := hI
            have k0_0 : g44 0 13 = g0 0 13 := kk0.trans k0_0
            exact J89 g44 L45 hI k0_0
      ·
        have c9 := icc_nlt (m := (Int32.toInt p1)) (n := 12) rfl (by decide) c9
        omega
  ·
    have c1 := icc_nlt (m := (Int32.toInt p2)) (n := (Int32.toInt (g0 10 8))) rfl rfl c1
    exact Ex.ret ⟨hI, k0_0⟩
set_option maxHeartbeats 4000000 in
set_option maxRecDepth 100000 in
theorem sX2_tryGapsOf_10_L3 (fu : Nat) (hfu : 1180591620717411303424 ≤ fu) (p1 : Int32) (p2 : Int32) (g0 : Nat → Nat → Int32) (L0 : Nat → Nat → Int64) (hI : zI XT g0) (hp1 : (10 ≤ (Int32.toInt p1) ∧ (Int32.toInt p1) ≤ 11)) : Ex (fX2_tryGapsOf_10 fu (fX2_tryFrom_10 fu 2) p1 p2 g0 L0) (fun (r : Unit) (g1 : Nat → Nat → Int32) (L1 : Nat → Nat → Int64) => zI XT g1 ∧ g1 0 13 = g0 0 13) := by
  have k0_0 : g0 0 13 = g0 0 13 := rfl
  unfold fX2_tryGapsOf_10
  have lp5 : ∀ (v1 : Int32) (v2 : Int32) (v3 : Int32) (v4 : Int32) (g : Nat → Nat → Int32) (L : Nat → Nat → Int64), (10 ≤ (Int32.toInt v1) ∧ (Int32.toInt v1) ≤ 11) → (0 ≤ (Int32.toInt v4) ∧ (Int32.toInt v4) ≤ 5) → zI XT g → g 0 13 = g0 0 13 → Ex (fX2_tryGapsOf_10_l5 fu (fX2_tryFrom_10 fu 2) v1 v2 v3 v4 g L) (fun (r : Unit) (g1 : Nat → Nat → Int32) (L1 : Nat → Nat → Int64) => zI XT g1 ∧ g1 0 13 = g0 0 13) := by
    intro v1 v2 v3 v4 g L hb_v1 hb_v4 hI k0_0
    unfold fX2_tryGapsOf_10_l5
    refine Ex.loop (fun v => ((10 ≤ (Int32.toInt v1) ∧ (Int32.toInt v1) ≤ 11)) ∧ ((0 ≤ (Int32.toInt (v.2.1)) ∧ (Int32.toInt (v.2.1)) ≤ 5)) ∧ (zI XT (v.2.2.1)) ∧ ((v.2.2.1) 0 13 = g0 0 13)) (fun v => 6 - (Int32.toInt (v.2.1))) (by omega) (by show 6 - (Int32.toInt v4) < (fu : Int); omega) ⟨hb_v1, hb_v4, hI, k0_0⟩ (fun k5 v hv ih5 => ?_)
    obtain ⟨v3, v4, g, L⟩ := v
    obtain ⟨hb_v1, hb_v4, hI, k0_0⟩ := hv
    have hb_v1 : (10 ≤ (Int32.toInt v1) ∧ (Int32.toInt v1) ≤ 11) := hb_v1
    have hb_v4 : (0 ≤ (Int32.toInt v4) ∧ (Int32.toInt v4) ≤ 5) := hb_v4
    have hI : zI XT g := hI
    have k0_0 : g 0 13 = g0 0 13 := k0_0
    have ih5 : ∀ v' : Int32 × Int32 × (Nat → Nat → Int32) × (Nat → Nat → Int64), (((10 ≤ (Int32.toInt v1) ∧ (Int32.toInt v1) ≤ 11)) ∧ ((0 ≤ (Int32.toInt (v'.2.1)) ∧ (Int32.toInt (v'.2.1)) ≤ 5)) ∧ (zI XT (v'.2.2.1)) ∧ ((v'.2.2.1) 0 13 = g0 0 13)) → 6 - (Int32.toInt (v'.2.1)) < 6 - (Int32.toInt v4) → 0 < 6 - (Int32.toInt v4) → Ex (k5 v') (fun (r : Unit) (g1 : Nat → Nat → Int32) (L1 : Nat → Nat → Int64) => zI XT g1 ∧ g1 0 13 = g0 0 13) := ih5
    show Ex (fX2_tryGapsOf_10_s5 fu (fX2_tryFrom_10 fu 2) v1 v2 k5 v3 v4 g L) (fun (r : Unit) (g1 : Nat → Nat → Int32) (L1 : Nat → Nat → Int64) => zI XT g1 ∧ g1 0 13 = g0 0 13)
    unfold fX2_tryGapsOf_10_s5
    refine Ex.ite (fun c1 => ?_) (fun c1 => ?_)
    ·
      have c1 := icc_lt (m := 4) (n := (Int32.toInt v4)) (by decide) rfl c1
      exact Ex.ret ⟨hI, k0_0⟩
    ·
      have c1 := icc_nlt (m := 4) (n := (Int32.toInt v4)) (by decide) rfl c1
      refine Ex.ck (by omega) (by omega) ?_
      refine Ex.sti (hI.updN rfl) (fun g2 g2e hI => ?_)
      have k0_0 : g2 0 13 = g0 0 13 := by rw [g2e]; exact k0_0
      refine Ex.cb (sX1_runOne_8 fu hfu v1 g2 L hI (by omega)) (fun x3 g4 L5 hq7 => ?_)
      obtain ⟨hI, kk0⟩ := hq7
      have hI : zI XT g4 := hI
      have k0_0 : g4 0 13 = g0 0 13 := kk0.trans k0_0
      refine Ex.ck (by omega) (by omega) ?_
      have J64 : ∀ (v3 : Int32) (g : Nat → Nat → Int32) (L : Nat → Nat → Int64), (10 ≤ (Int32.toInt v1) ∧ (Int32.toInt v1) ≤ 11) → (0 ≤ (Int32.toInt v4) ∧ (Int32.toInt v4) ≤ 4) → zI XT g → g 0 13 = g0 0 13 → Ex (fX2_tryGapsOf_10_p64 fu (fX2_tryFrom_10 fu 2) k5 v1 v2 v3 v4 g L) (fun (r : Unit) (g1 : Nat → Nat → Int32) (L1 : Nat → Nat → Int64) => zI XT g1 ∧ g1 0 13 = g0 0 13) := by
        intro v3 g L hb_v1 hb_v4 hI k0_0
        unfold fX2_tryGapsOf_10_p64
        generalize z8q : (v4 + 1) = z8
        have e9 : (Int32.toInt z8) = (Int32.toInt v4) + 1 := by rw [← z8q]; exact ic_addc rfl (by decide) (by omega) (by omega)
        exact ih5 (v3, z8, g, L) ⟨(show (10 ≤ (Int32.toInt v1) ∧ (Int32.toInt v1) ≤ 11) from by omega), (show (0 ≤ (Int32.toInt z8) ∧ (Int32.toInt z8) ≤ 5) from by omega), hI, k0_0⟩ (by show 6 - (Int32.toInt z8) < _; omega) (by omega)
      refine Ex.ite (fun c10 => ?_) (fun c10 => ?_)
      ·
        have c10 := icc_eq (m := (Int32.toInt (g4 44 (Int32.toNatClampNeg v1)))) (n := (Int32.toInt v3)) rfl rfl c10
        exact J64 v3 g4 L5 (by omega) (by omega) hI k0_0
      ·
        have c10 := icc_neq (m := (Int32.toInt (g4 44 (Int32.toNatClampNeg v1)))) (n := (Int32.toInt v3)) rfl rfl c10
        refine Ex.ck (by omega) (by omega) ?_
        refine Ex.lti (fun x11 x11e x11i => ?_)
        generalize z12q : (v1 + 1) = z12
        have e13 : (Int32.toInt z12) = (Int32.toInt v1) + 1 := by rw [← z12q]; exact ic_addc rfl (by decide) (by omega) (by omega)
        generalize z14q : (v2 + v4) = z14
        refine Ex.cb (sX2_tryFrom_10_L2 fu hfu z12 z14 g4 L5 hI (by omega)) (fun x15 g16 L17 hq19 => ?_)
        obtain ⟨hI, kk0⟩ := hq19
        have hI : zI XT g16 := hI
        have k0_0 : g16 0 13 = g0 0 13 := kk0.trans k0_0
        exact J64 x11 g16 L17 (by omega) (by omega) hI k0_0
  exact lp5 p1 p2 (-1) 0 g0 L0 (by omega) (by decide) hI k0_0
set_option maxHeartbeats 4000000 in
set_option maxRecDepth 100000 in
theorem sX2_tryFrom_10_L3 (fu : Nat) (hfu : 1180591620717411303424 ≤ fu) (p1 : Int32) (p2 : Int32) (g0 : Nat → Nat → Int32) (L0 : Nat → Nat → Int64) (hI : zI XT g0) (hp1 : (10 ≤ (Int32.toInt p1) ∧ (Int32.toInt p1) ≤ 12)) : Ex (fX2_tryFrom_10 fu 3 p1 p2 g0 L0) (fun (r : Unit) (g1 : Nat → Nat → Int32) (L1 : Nat → Nat → Int64) => zI XT g1 ∧ g1 0 13 = g0 0 13) := by
  have k0_0 : g0 0 13 = g0 0 13 := rfl
  rw [fX2_tryFrom_10_succ]
  unfold fX2_tryFrom_10B
  refine Ex.ite (fun c1 => ?_) (fun c1 => ?_)
  ·
    have c1 := icc_lt (m := (Int32.toInt p2)) (n := (Int32.toInt (g0 10 8))) rfl rfl c1
    have b2 : 0 ≤ (Int32.toInt (g0 10 5)) ∧ (Int32.toInt (g0 10 5)) ≤ 11 := hI 10 5 0 11 rfl
    have J89 : ∀ (g : Nat → Nat → Int32) (L : Nat → Nat → Int64), zI XT g → g 0 13 = g0 0 13 → Ex (fX2_tryFrom_10_p89 fu (fX2_tryFrom_10 fu 2) g L) (fun (r : Unit) (g1 : Nat → Nat → Int32) (L1 : Nat → Nat → Int64) => zI XT g1 ∧ g1 0 13 = g0 0 13) := by
      intro g L hI k0_0
      unfold fX2_tryFrom_10_p89
      exact Ex.ret ⟨hI, k0_0⟩
    have J23 : ∀ (v2 : Int32) (g : Nat → Nat → Int32) (L : Nat → Nat → Int64), zI XT g → g 0 13 = g0 0 13 → Ex (fX2_tryFrom_10_p23 fu (fX2_tryFrom_10 fu 2) v2 g L) (fun (r : Unit) (g1 : Nat → Nat → Int32) (L1 : Nat → Nat → Int64) => zI XT g1 ∧ g1 0 13 = g0 0 13) := by
      intro v2 g L hI k0_0
      unfold fX2_tryFrom_10_p23
      refine Ex.cb (sX2_takeIfOnTime_10 fu hfu v2 g L hI) (fun x3 g4 L5 hq7 => ?_)
      obtain ⟨hI, kk0⟩ := hq7
      have hI : zI XT g4 := hI
      have k0_0 : g4 0 13 = g0 0 13 := kk0.trans k0_0
      exact J89 g4 L5 hI k0_0
    refine Ex.ite (fun c8 => ?_) (fun c8 => ?_)
    ·
      have c8 := icc_lt (m := (Int32.toInt (g0 10 5))) (n := (Int32.toInt p1)) rfl rfl c8
      exact J23 p2 g0 L0 hI k0_0
    ·
      have c8 := icc_nlt (m := (Int32.toInt (g0 10 5))) (n := (Int32.toInt p1)) rfl rfl c8
      refine Ex.ite (fun c9 => ?_) (fun c9 => ?_)
      ·
        have c9 := icc_lt (m := (Int32.toInt p1)) (n := 12) rfl (by decide) c9
        refine Ex.cb (sX2_isIn fu hfu (g0 10 7) p1 g0 L0 hI) (fun x10 g11 L12 hq14 => ?_)
        obtain ⟨hI, kk0, rb_⟩ := hq14
        have b15 : 0 ≤ (Int32.toInt x10) ∧ (Int32.toInt x10) ≤ 1 := rb_
        have hI : zI XT g11 := hI
        have k0_0 : g11 0 13 = g0 0 13 := kk0.trans k0_0
        refine Ex.ite (fun c16 => ?_) (fun c16 => ?_)
        ·
          have c16 := icc_eq (m := (Int32.toInt x10)) (n := 0) rfl (by decide) c16
          generalize z17q : (p1 + 1) = z17
          have e18 : (Int32.toInt z17) = (Int32.toInt p1) + 1 := by rw [← z17q]; exact ic_addc rfl (by decide) (by omega) (by omega)
          refine Ex.cb (sX2_tryFrom_10_L2 fu hfu z17 p2 g11 L12 hI (by omega)) (fun x19 g20 L21 hq23 => ?_)
          obtain ⟨hI, kk0⟩ := hq23
          have hI : zI XT g20 := hI
          have k0_0 : g20 0 13 = g0 0 13 := kk0.trans k0_0
          exact J89 g20 L21 hI k0_0
        ·
          have c16 := icc_neq (m := (Int32.toInt x10)) (n := 0) rfl (by decide) c16
          refine Ex.cb (sX2_isIn fu hfu (g11 10 4) p1 g11 L12 hI) (fun x24 g25 L26 hq28 => ?_)
          obtain ⟨hI, kk0, rb_⟩ := hq28
          have b29 : 0 ≤ (Int32.toInt x24) ∧ (Int32.toInt x24) ≤ 1 := rb_
          have hI : zI XT g25 := hI
          have k0_0 : g25 0 13 = g0 0 13 := kk0.trans k0_0
          refine Ex.ite (fun c30 => ?_) (fun c30 => ?_)
          ·
            have c30 := icc_eq (m := (Int32.toInt x24)) (n := 0) rfl (by decide) c30
            refine Ex.cb (sX1_runOne_8 fu hfu p1 g25 L26 hI (by omega)) (fun x31 g32 L33 hq35 => ?_)
            obtain ⟨hI, kk0⟩ := hq35
            have hI : zI XT g32 := hI
            have k0_0 : g32 0 13 = g0 0 13 := kk0.trans k0_0
            generalize z36q : (p1 + 1) = z36
            have e37 : (Int32.toInt z36) = (Int32.toInt p1) + 1 := by rw [← z36q]; exact ic_addc rfl (by decide) (by omega) (by omega)
            refine Ex.cb (sX2_tryFrom_10_L2 fu hfu z36 p2 g32 L33 hI (by omega)) (fun x38 g39 L40 hq42 => ?_)
            obtain ⟨hI, kk0⟩ := hq42
            have hI : zI XT g39 := hI
            have k0_0 : g39 0 13 = g0 0 13 := kk0.trans k0_0
            exact J89 g39 L40 hI k0_0
          ·
            have c30 := icc_neq (m := (Int32.toInt x24)) (n := 0) rfl (by decide) c30
            refine Ex.cb (sX2_tryGapsOf_10_L3 fu hfu p1 p2 g25 L26 hI (by omega)) (fun x43 g44 L45 hq47 => ?_)
            obtain ⟨hI, kk0⟩ := hq47
            have hI : zI XT g44 := hI
            have k0_0 : g44 0 13 = g0 0 13 := kk0.trans k0_0
            exact J89 g44 L45 hI k0_0
      ·
        have c9 := icc_nlt (m := (Int32.toInt p1)) (n := 12) rfl (by decide) c9
        omega
  ·
    have c1 := icc_nlt (m := (Int32.toInt p2)) (n := (Int32.toInt (g0 10 8))) rfl rfl c1
    exact Ex.ret ⟨hI, k0_0⟩
set_option maxHeartbeats 4000000 in
set_option maxRecDepth 100000 in
theorem sX2_tryGapsOf_10_L4 (fu : Nat) (hfu : 1180591620717411303424 ≤ fu) (p1 : Int32) (p2 : Int32) (g0 : Nat → Nat → Int32) (L0 : Nat → Nat → Int64) (hI : zI XT g0) (hp1 : (9 ≤ (Int32.toInt p1) ∧ (Int32.toInt p1) ≤ 11)) : Ex (fX2_tryGapsOf_10 fu (fX2_tryFrom_10 fu 3) p1 p2 g0 L0) (fun (r : Unit) (g1 : Nat → Nat → Int32) (L1 : Nat → Nat → Int64) => zI XT g1 ∧ g1 0 13 = g0 0 13) := by
  have k0_0 : g0 0 13 = g0 0 13 := rfl
  unfold fX2_tryGapsOf_10
  have lp5 : ∀ (v1 : Int32) (v2 : Int32) (v3 : Int32) (v4 : Int32) (g : Nat → Nat → Int32) (L : Nat → Nat → Int64), (9 ≤ (Int32.toInt v1) ∧ (Int32.toInt v1) ≤ 11) → (0 ≤ (Int32.toInt v4) ∧ (Int32.toInt v4) ≤ 5) → zI XT g → g 0 13 = g0 0 13 → Ex (fX2_tryGapsOf_10_l5 fu (fX2_tryFrom_10 fu 3) v1 v2 v3 v4 g L) (fun (r : Unit) (g1 : Nat → Nat → Int32) (L1 : Nat → Nat → Int64) => zI XT g1 ∧ g1 0 13 = g0 0 13) := by
    intro v1 v2 v3 v4 g L hb_v1 hb_v4 hI k0_0
    unfold fX2_tryGapsOf_10_l5
    refine Ex.loop (fun v => ((9 ≤ (Int32.toInt v1) ∧ (Int32.toInt v1) ≤ 11)) ∧ ((0 ≤ (Int32.toInt (v.2.1)) ∧ (Int32.toInt (v.2.1)) ≤ 5)) ∧ (zI XT (v.2.2.1)) ∧ ((v.2.2.1) 0 13 = g0 0 13)) (fun v => 6 - (Int32.toInt (v.2.1))) (by omega) (by show 6 - (Int32.toInt v4) < (fu : Int); omega) ⟨hb_v1, hb_v4, hI, k0_0⟩ (fun k5 v hv ih5 => ?_)
    obtain ⟨v3, v4, g, L⟩ := v
    obtain ⟨hb_v1, hb_v4, hI, k0_0⟩ := hv
    have hb_v1 : (9 ≤ (Int32.toInt v1) ∧ (Int32.toInt v1) ≤ 11) := hb_v1
    have hb_v4 : (0 ≤ (Int32.toInt v4) ∧ (Int32.toInt v4) ≤ 5) := hb_v4
    have hI : zI XT g := hI
    have k0_0 : g 0 13 = g0 0 13 := k0_0
    have ih5 : ∀ v' : Int32 × Int32 × (Nat → Nat → Int32) × (Nat → Nat → Int64), (((9 ≤ (Int32.toInt v1) ∧ (Int32.toInt v1) ≤ 11)) ∧ ((0 ≤ (Int32.toInt (v'.2.1)) ∧ (Int32.toInt (v'.2.1)) ≤ 5)) ∧ (zI XT (v'.2.2.1)) ∧ ((v'.2.2.1) 0 13 = g0 0 13)) → 6 - (Int32.toInt (v'.2.1)) < 6 - (Int32.toInt v4) → 0 < 6 - (Int32.toInt v4) → Ex (k5 v') (fun (r : Unit) (g1 : Nat → Nat → Int32) (L1 : Nat → Nat → Int64) => zI XT g1 ∧ g1 0 13 = g0 0 13) := ih5
    show Ex (fX2_tryGapsOf_10_s5 fu (fX2_tryFrom_10 fu 3) v1 v2 k5 v3 v4 g L) (fun (r : Unit) (g1 : Nat → Nat → Int32) (L1 : Nat → Nat → Int64) => zI XT g1 ∧ g1 0 13 = g0 0 13)
    unfold fX2_tryGapsOf_10_s5
    refine Ex.ite (fun c1 => ?_) (fun c1 => ?_)
    ·
      have c1 := icc_lt (m := 4) (n := (Int32.toInt v4)) (by decide) rfl c1
      exact Ex.ret ⟨hI, k0_0⟩
    ·
      have c1 := icc_nlt (m := 4) (n := (Int32.toInt v4)) (by decide) rfl c1
      refine Ex.ck (by omega) (by omega) ?_
      refine Ex.sti (hI.updN rfl) (fun g2 g2e hI => ?_)
      have k0_0 : g2 0 13 = g0 0 13 := by rw [g2e]; exact k0_0
      refine Ex.cb (sX1_runOne_8 fu hfu v1 g2 L hI (by omega)) (fun x3 g4 L5 hq7 => ?_)
      obtain ⟨hI, kk0⟩ := hq7
      have hI : zI XT g4 := hI
      have k0_0 : g4 0 13 = g0 0 13 := kk0.trans k0_0
      refine Ex.ck (by omega) (by omega) ?_
      have J64 : ∀ (v3 : Int32) (g : Nat → Nat → Int32) (L : Nat → Nat → Int64), (9 ≤ (Int32.toInt v1) ∧ (Int32.toInt v1) ≤ 11) → (0 ≤ (Int32.toInt v4) ∧ (Int32.toInt v4) ≤ 4) → zI XT g → g 0 13 = g0 0 13 → Ex (fX2_tryGapsOf_10_p64 fu (fX2_tryFrom_10 fu 3) k5 v1 v2 v3 v4 g L) (fun (r : Unit) (g1 : Nat → Nat → Int32) (L1 : Nat → Nat → Int64) => zI XT g1 ∧ g1 0 13 = g0 0 13) := by
        intro v3 g L hb_v1 hb_v4 hI k0_0
        unfold fX2_tryGapsOf_10_p64
        generalize z8q : (v4 + 1) = z8
        have e9 : (Int32.toInt z8) = (Int32.toInt v4) + 1 := by rw [← z8q]; exact ic_addc rfl (by decide) (by omega) (by omega)
        exact ih5 (v3, z8, g, L) ⟨(show (9 ≤ (Int32.toInt v1) ∧ (Int32.toInt v1) ≤ 11) from by omega), (show (0 ≤ (Int32.toInt z8) ∧ (Int32.toInt z8) ≤ 5) from by omega), hI, k0_0⟩ (by show 6 - (Int32.toInt z8) < _; omega) (by omega)
      refine Ex.ite (fun c10 => ?_) (fun c10 => ?_)
      ·
        have c10 := icc_eq (m := (Int32.toInt (g4 44 (Int32.toNatClampNeg v1)))) (n := (Int32.toInt v3)) rfl rfl c10
        exact J64 v3 g4 L5 (by omega) (by omega) hI k0_0
      ·
        have c10 := icc_neq (m := (Int32.toInt (g4 44 (Int32.toNatClampNeg v1)))) (n := (Int32.toInt v3)) rfl rfl c10
        refine Ex.ck (by omega) (by omega) ?_
        refine Ex.lti (fun x11 x11e x11i => ?_)
        generalize z12q : (v1 + 1) = z12
        have e13 : (Int32.toInt z12) = (Int32.toInt v1) + 1 := by rw [← z12q]; exact ic_addc rfl (by decide) (by omega) (by omega)
        generalize z14q : (v2 + v4) = z14
        refine Ex.cb (sX2_tryFrom_10_L3 fu hfu z12 z14 g4 L5 hI (by omega)) (fun x15 g16 L17 hq19 => ?_)
        obtain ⟨hI, kk0⟩ := hq19
        have hI : zI XT g16 := hI
        have k0_0 : g16 0 13 = g0 0 13 := kk0.trans k0_0
        exact J64 x11 g16 L17 (by omega) (by omega) hI k0_0
  exact lp5 p1 p2 (-1) 0 g0 L0 (by omega) (by decide) hI k0_0
set_option maxHeartbeats 4000000 in
set_option maxRecDepth 100000 in
theorem sX2_tryFrom_10_L4 (fu : Nat) (hfu : 1180591620717411303424 ≤ fu) (p1 : Int32) (p2 : Int32) (g0 : Nat → Nat → Int32) (L0 : Nat → Nat → Int64) (hI : zI XT g0) (hp1 : (9 ≤ (Int32.toInt p1) ∧ (Int32.toInt p1) ≤ 12)) : Ex (fX2_tryFrom_10 fu 4 p1 p2 g0 L0) (fun (r : Unit) (g1 : Nat → Nat → Int32) (L1 : Nat → Nat → Int64) => zI XT g1 ∧ g1 0 13 = g0 0 13) := by
  have k0_0 : g0 0 13 = g0 0 13 := rfl
  rw [fX2_tryFrom_10_succ]
  unfold fX2_tryFrom_10B
  refine Ex.ite (fun c1 => ?_) (fun c1 => ?_)
  ·
    have c1 := icc_lt (m := (Int32.toInt p2)) (n := (Int32.toInt (g0 10 8))) rfl rfl c1
    have b2 : 0 ≤ (Int32.toInt (g0 10 5)) ∧ (Int32.toInt (g0 10 5)) ≤ 11 := hI 10 5 0 11 rfl
    have J89 : ∀ (g : Nat → Nat → Int32) (L : Nat → Nat → Int64), zI XT g → g 0 13 = g0 0 13 → Ex (fX2_tryFrom_10_p89 fu (fX2_tryFrom_10 fu 3) g L) (fun (r : Unit) (g1 : Nat → Nat → Int32) (L1 : Nat → Nat → Int64) => zI XT g1 ∧ g1 0 13 = g0 0 13) := by
      intro g L hI k0_0
      unfold fX2_tryFrom_10_p89
      exact Ex.ret ⟨hI, k0_0⟩
    have J23 : ∀ (v2 : Int32) (g : Nat → Nat → Int32) (L : Nat → Nat → Int64), zI XT g → g 0 13 = g0 0 13 → Ex (fX2_tryFrom_10_p23 fu (fX2_tryFrom_10 fu 3) v2 g L) (fun (r : Unit) (g1 : Nat → Nat → Int32) (L1 : Nat → Nat → Int64) => zI XT g1 ∧ g1 0 13 = g0 0 13) := by
      intro v2 g L hI k0_0
      unfold fX2_tryFrom_10_p23
      refine Ex.cb (sX2_takeIfOnTime_10 fu hfu v2 g L hI) (fun x3 g4 L5 hq7 => ?_)
      obtain ⟨hI, kk0⟩ := hq7
      have hI : zI XT g4 := hI
      have k0_0 : g4 0 13 = g0 0 13 := kk0.trans k0_0
      exact J89 g4 L5 hI k0_0
    refine Ex.ite (fun c8 => ?_) (fun c8 => ?_)
    ·
      have c8 := icc_lt (m := (Int32.toInt (g0 10 5))) (n := (Int32.toInt p1)) rfl rfl c8
      exact J23 p2 g0 L0 hI k0_0
    ·
      have c8 := icc_nlt (m := (Int32.toInt (g0 10 5))) (n := (Int32.toInt p1)) rfl rfl c8
      refine Ex.ite (fun c9 => ?_) (fun c9 => ?_)
      ·
        have c9 := icc_lt (m := (Int32.toInt p1)) (n := 12) rfl (by decide) c9
        refine Ex.cb (sX2_isIn fu hfu (g0 10 7) p1 g0 L0 hI) (fun x10 g11 L12 hq14 => ?_)
        obtain ⟨hI, kk0, rb_⟩ := hq14
        have b15 : 0 ≤ (Int32.toInt x10) ∧ (Int32.toInt x10) ≤ 1 := rb_
        have hI : zI XT g11 := hI
        have k0_0 : g11 0 13 = g0 0 13 := kk0.trans k0_0
        refine Ex.ite (fun c16 => ?_) (fun c16 => ?_)
        ·
          have c16 := icc_eq (m := (Int32.toInt x10)) (n := 0) rfl (by decide) c16
          generalize z17q : (p1 + 1) = z17
          have e18 : (Int32.toInt z17) = (Int32.toInt p1) + 1 := by rw [← z17q]; exact ic_addc rfl (by decide) (by omega) (by omega)
          refine Ex.cb (sX2_tryFrom_10_L3 fu hfu z17 p2 g11 L12 hI (by omega)) (fun x19 g20 L21 hq23 => ?_)
          obtain ⟨hI, kk0⟩ := hq23
          have hI : zI XT g20 := hI
          have k0_0 : g20 0 13 = g0 0 13 := kk0.trans k0_0
          exact J89 g20 L21 hI k0_0
        ·
          have c16 := icc_neq (m := (Int32.toInt x10)) (n := 0) rfl (by decide) c16
          refine Ex.cb (sX2_isIn fu hfu (g11 10 4) p1 g11 L12 hI) (fun x24 g25 L26 hq28 => ?_)
          obtain ⟨hI, kk0, rb_⟩ := hq28
          have b29 : 0 ≤ (Int32.toInt x24) ∧ (Int32.toInt x24) ≤ 1 := rb_
          have hI : zI XT g25 := hI
          have k0_0 : g25 0 13 = g0 0 13 := kk0.trans k0_0
          refine Ex.ite (fun c30 => ?_) (fun c30 => ?_)
          ·
            have c30 := icc_eq (m := (Int32.toInt x24)) (n := 0) rfl (by decide) c30
            refine Ex.cb (sX1_runOne_8 fu hfu p1 g25 L26 hI (by omega)) (fun x31 g32 L33 hq35 => ?_)
            obtain ⟨hI, kk0⟩ := hq35
            have hI : zI XT g32 := hI
            have k0_0 : g32 0 13 = g0 0 13 := kk0.trans k0_0
            generalize z36q : (p1 + 1) = z36
            have e37 : (Int32.toInt z36) = (Int32.toInt p1) + 1 := by rw [← z36q]; exact ic_addc rfl (by decide) (by omega) (by omega)
            refine Ex.cb (sX2_tryFrom_10_L3 fu hfu z36 p2 g32 L33 hI (by omega)) (fun x38 g39 L40 hq42 => ?_)
            obtain ⟨hI, kk0⟩ := hq42
            have hI : zI XT g39 := hI
            have k0_0 : g39 0 13 = g0 0 13 := kk0.trans k0_0
            exact J89 g39 L40 hI k0_0
          ·
            have c30 := icc_neq (m := (Int32.toInt x24)) (n := 0) rfl (by decide) c30
            refine Ex.cb (sX2_tryGapsOf_10_L4 fu hfu p1 p2 g25 L26 hI (by omega)) (fun x43 g44 L45 hq47 => ?_)
            obtain ⟨hI, kk0⟩ := hq47
            have hI : zI XT g44 := hI
            have k0_0 : g44 0 13 = g0 0 13 := kk0.trans k0_0
            exact J89 g44 L45 hI k0_0
      ·
        have c9 := icc_nlt (m := (Int32.toInt p1)) (n := 12) rfl (by decide) c9
        omega
  ·
    have c1 := icc_nlt (m := (Int32.toInt p2)) (n := (Int32.toInt (g0 10 8))) rfl rfl c1
    exact Ex.ret ⟨hI, k0_0⟩
set_option maxHeartbeats 4000000 in
set_option maxRecDepth 100000 in
theorem sX2_tryGapsOf_10_L5 (fu : Nat) (hfu : 1180591620717411303424 ≤ fu) (p1 : Int32) (p2 : Int32) (g0 : Nat → Nat → Int32) (L0 : Nat → Nat → Int64) (hI : zI XT g0) (hp1 : (8 ≤ (Int32.toInt p1) ∧ (Int32.toInt p1) ≤ 11)) : Ex (fX2_tryGapsOf_10 fu (fX2_tryFrom_10 fu 4) p1 p2 g0 L0) (fun (r : Unit) (g1 : Nat → Nat → Int32) (L1 : Nat → Nat → Int64) => zI XT g1 ∧ g1 0 13 = g0 0 13) := by
  have k0_0 : g0 0 13 = g0 0 13 := rfl
  unfold fX2_tryGapsOf_10
  have lp5 : ∀ (v1 : Int32) (v2 : Int32) (v3 : Int32) (v4 : Int32) (g : Nat → Nat → Int32) (L : Nat → Nat → Int64), (8 ≤ (Int32.toInt v1) ∧ (Int32.toInt v1) ≤ 11) → (0 ≤ (Int32.toInt v4) ∧ (Int32.toInt v4) ≤ 5) → zI XT g → g 0 13 = g0 0 13 → Ex (fX2_tryGapsOf_10_l5 fu (fX2_tryFrom_10 fu 4) v1 v2 v3 v4 g L) (fun (r : Unit) (g1 : Nat → Nat → Int32) (L1 : Nat → Nat → Int64) => zI XT g1 ∧ g1 0 13 = g0 0 13) := by
    intro v1 v2 v3 v4 g L hb_v1 hb_v4 hI k0_0
    unfold fX2_tryGapsOf_10_l5
    refine Ex.loop (fun v => ((8 ≤ (Int32.toInt v1) ∧ (Int32.toInt v1) ≤ 11)) ∧ ((0 ≤ (Int32.toInt (v.2.1)) ∧ (Int32.toInt (v.2.1)) ≤ 5)) ∧ (zI XT (v.2.2.1)) ∧ ((v.2.2.1) 0 13 = g0 0 13)) (fun v => 6 - (Int32.toInt (v.2.1))) (by omega) (by show 6 - (Int32.toInt v4) < (fu : Int); omega) ⟨hb_v1, hb_v4, hI, k0_0⟩ (fun k5 v hv ih5 => ?_)
    obtain ⟨v3, v4, g, L⟩ := v
    obtain ⟨hb_v1, hb_v4, hI, k0_0⟩ := hv
    have hb_v1 : (8 ≤ (Int32.toInt v1) ∧ (Int32.toInt v1) ≤ 11) := hb_v1
    have hb_v4 : (0 ≤ (Int32.toInt v4) ∧ (Int32.toInt v4) ≤ 5) := hb_v4
    have hI : zI XT g := hI
    have k0_0 : g 0 13 = g0 0 13 := k0_0
    have ih5 : ∀ v' : Int32 × Int32 × (Nat → Nat → Int32) × (Nat → Nat → Int64), (((8 ≤ (Int32.toInt v1) ∧ (Int32.toInt v1) ≤ 11)) ∧ ((0 ≤ (Int32.toInt (v'.2.1)) ∧ (Int32.toInt (v'.2.1)) ≤ 5)) ∧ (zI XT (v'.2.2.1)) ∧ ((v'.2.2.1) 0 13 = g0 0 13)) → 6 - (Int32.toInt (v'.2.1)) < 6 - (Int32.toInt v4) → 0 < 6 - (Int32.toInt v4) → Ex (k5 v') (fun (r : Unit) (g1 : Nat → Nat → Int32) (L1 : Nat → Nat → Int64) => zI XT g1 ∧ g1 0 13 = g0 0 13) := ih5
    show Ex (fX2_tryGapsOf_10_s5 fu (fX2_tryFrom_10 fu 4) v1 v2 k5 v3 v4 g L) (fun (r : Unit) (g1 : Nat → Nat → Int32) (L1 : Nat → Nat → Int64) => zI XT g1 ∧ g1 0 13 = g0 0 13)
    unfold fX2_tryGapsOf_10_s5
    refine Ex.ite (fun c1 => ?_) (fun c1 => ?_)
    ·
      have c1 := icc_lt (m := 4) (n := (Int32.toInt v4)) (by decide) rfl c1
      exact Ex.ret ⟨hI, k0_0⟩
    ·
      have c1 := icc_nlt (m := 4) (n := (Int32.toInt v4)) (by decide) rfl c1
      refine Ex.ck (by omega) (by omega) ?_
      refine Ex.sti (hI.updN rfl) (fun g2 g2e hI => ?_)
      have k0_0 : g2 0 13 = g0 0 13 := by rw [g2e]; exact k0_0
      refine Ex.cb (sX1_runOne_8 fu hfu v1 g2 L hI (by omega)) (fun x3 g4 L5 hq7 => ?_)
      obtain ⟨hI, kk0⟩ := hq7
      have hI : zI XT g4 := hI
      have k0_0 : g4 0 13 = g0 0 13 := kk0.trans k0_0
      refine Ex.ck (by omega) (by omega) ?_
      have J64 : ∀ (v3 : Int32) (g : Nat → Nat → Int32) (L : Nat → Nat → Int64), (8 ≤ (Int32.toInt v1) ∧ (Int32.toInt v1) ≤ 11) → (0 ≤ (Int32.toInt v4) ∧ (Int32.toInt v4) ≤ 4) → zI XT g → g 0 13 = g0 0 13 → Ex (fX2_tryGapsOf_10_p64 fu (fX2_tryFrom_10 fu 4) k5 v1 v2 v3 v4 g L) (fun (r : Unit) (g1 : Nat → Nat → Int32) (L1 : Nat → Nat → Int64) => zI XT g1 ∧ g1 0 13 = g0 0 13) := by
        intro v3 g L hb_v1 hb_v4 hI k0_0
        unfold fX2_tryGapsOf_10_p64
        generalize z8q : (v4 + 1) = z8
        have e9 : (Int32.toInt z8) = (Int32.toInt v4) + 1 := by rw [← z8q]; exact ic_addc rfl (by decide) (by omega) (by omega)
        exact ih5 (v3, z8, g, L) ⟨(show (8 ≤ (Int32.toInt v1) ∧ (Int32.toInt v1) ≤ 11) from by omega), (show (0 ≤ (Int32.toInt z8) ∧ (Int32.toInt z8) ≤ 5) from by omega), hI, k0_0⟩ (by show 6 - (Int32.toInt z8) < _; omega) (by omega)
      refine Ex.ite (fun c10 => ?_) (fun c10 => ?_)
      ·
        have c10 := icc_eq (m := (Int32.toInt (g4 44 (Int32.toNatClampNeg v1)))) (n := (Int32.toInt v3)) rfl rfl c10
        exact J64 v3 g4 L5 (by omega) (by omega) hI k0_0
      ·
        have c10 := icc_neq (m := (Int32.toInt (g4 44 (Int32.toNatClampNeg v1)))) (n := (Int32.toInt v3)) rfl rfl c10
        refine Ex.ck (by omega) (by omega) ?_
        refine Ex.lti (fun x11 x11e x11i => ?_)
        generalize z12q : (v1 + 1) = z12
        have e13 : (Int32.toInt z12) = (Int32.toInt v1) + 1 := by rw [← z12q]; exact ic_addc rfl (by decide) (by omega) (by omega)
        generalize z14q : (v2 + v4) = z14
        refine Ex.cb (sX2_tryFrom_10_L4 fu hfu z12 z14 g4 L5 hI (by omega)) (fun x15 g16 L17 hq19 => ?_)
        obtain ⟨hI, kk0⟩ := hq19
        have hI : zI XT g16 := hI
        have k0_0 : g16 0 13 = g0 0 13 := kk0.trans k0_0
        exact J64 x11 g16 L17 (by omega) (by omega) hI k0_0
  exact lp5 p1 p2 (-1) 0 g0 L0 (by omega) (by decide) hI k0_0
set_option maxHeartbeats 4000000 in
set_option maxRecDepth 100000 in
theorem sX2_tryFrom_10_L5 (fu : Nat) (hfu : 1180591620717411303424 ≤ fu) (p1 : Int32) (p2 : Int32) (g0 : Nat → Nat → Int32) (L0 : Nat → Nat → Int64) (hI : zI XT g0) (hp1 : (8 ≤ (Int32.toInt p1) ∧ (Int32.toInt p1) ≤ 12)) : Ex (fX2_tryFrom_10 fu 5 p1 p2 g0 L0) (fun (r : Unit) (g1 : Nat → Nat → Int32) (L1 : Nat → Nat → Int64) => zI XT g1 ∧ g1 0 13 = g0 0 13) := by
  have k0_0 : g0 0 13 = g0 0 13 := rfl
  rw [fX2_tryFrom_10_succ]
  unfold fX2_tryFrom_10B
  refine Ex.ite (fun c1 => ?_) (fun c1 => ?_)
  ·
    have c1 := icc_lt (m := (Int32.toInt p2)) (n := (Int32.toInt (g0 10 8))) rfl rfl c1
    have b2 : 0 ≤ (Int32.toInt (g0 10 5)) ∧ (Int32.toInt (g0 10 5)) ≤ 11 := hI 10 5 0 11 rfl
    have J89 : ∀ (g : Nat → Nat → Int32) (L : Nat → Nat → Int64), zI XT g → g 0 13 = g0 0 13 → Ex (fX2_tryFrom_10_p89 fu (fX2_tryFrom_10 fu 4) g L) (fun (r : Unit) (g1 : Nat → Nat → Int32) (L1 : Nat → Nat → Int64) => zI XT g1 ∧ g1 0 13 = g0 0 13) := by
      intro g L hI k0_0
      unfold fX2_tryFrom_10_p89
      exact Ex.ret ⟨hI, k0_0⟩
    have J23 : ∀ (v2 : Int32) (g : Nat → Nat → Int32) (L : Nat → Nat → Int64), zI XT g → g 0 13 = g0 0 13 → Ex (fX2_tryFrom_10_p23 fu (fX2_tryFrom_10 fu 4) v2 g L) (fun (r : Unit) (g1 : Nat → Nat → Int32) (L1 : Nat → Nat → Int64) => zI XT g1 ∧ g1 0 13 = g0 0 13) := by
      intro v2 g L hI k0_0
      unfold fX2_tryFrom_10_p23
      refine Ex.cb (sX2_takeIfOnTime_10 fu hfu v2 g L hI) (fun x3 g4 L5 hq7 => ?_)
      obtain ⟨hI, kk0⟩ := hq7
      have hI : zI XT g4 := hI
      have k0_0 : g4 0 13 = g0 0 13 := kk0.trans k0_0
      exact J89 g4 L5 hI k0_0
    refine Ex.ite (fun c8 => ?_) (fun c8 => ?_)
    ·
      have c8 := icc_lt (m := (Int32.toInt (g0 10 5))) (n := (Int32.toInt p1)) rfl rfl c8
      exact J23 p2 g0 L0 hI k0_0
    ·
      have c8 := icc_nlt (m := (Int32.toInt (g0 10 5))) (n := (Int32.toInt p1)) rfl rfl c8
      refine Ex.ite (fun c9 => ?_) (fun c9 => ?_)
      ·
        have c9 := icc_lt (m := (Int32.toInt p1)) (n := 12) rfl (by decide) c9
        refine Ex.cb (sX2_isIn fu hfu (g0 10 7) p1 g0 L0 hI) (fun x10 g11 L12 hq14 => ?_)
        obtain ⟨hI, kk0, rb_⟩ := hq14
        have b15 : 0 ≤ (Int32.toInt x10) ∧ (Int32.toInt x10) ≤ 1 := rb_
        have hI : zI XT g11 := hI
        have k0_0 : g11 0 13 = g0 0 13 := kk0.trans k0_0
        refine Ex.ite (fun c16 => ?_) (fun c16 => ?_)
        ·
          have c16 := icc_eq (m := (Int32.toInt x10)) (n := 0) rfl (by decide) c16
          generalize z17q : (p1 + 1) = z17
          have e18 : (Int32.toInt z17) = (Int32.toInt p1) + 1 := by rw [← z17q]; exact ic_addc rfl (by decide) (by omega) (by omega)
          refine Ex.cb (sX2_tryFrom_10_L4 fu hfu z17 p2 g11 L12 hI (by omega)) (fun x19 g20 L21 hq23 => ?_)
          obtain ⟨hI, kk0⟩ := hq23
          have hI : zI XT g20 := hI
          have k0_0 : g20 0 13 = g0 0 13 := kk0.trans k0_0
          exact J89 g20 L21 hI k0_0
        ·
          have c16 := icc_neq (m := (Int32.toInt x10)) (n := 0) rfl (by decide) c16
          refine Ex.cb (sX2_isIn fu hfu (g11 10 4) p1 g11 L12 hI) (fun x24 g25 L26 hq28 => ?_)
          obtain ⟨hI, kk0, rb_⟩ := hq28
          have b29 : 0 ≤ (Int32.toInt x24) ∧ (Int32.toInt x24) ≤ 1 := rb_
          have hI : zI XT g25 := hI
          have k0_0 : g25 0 13 = g0 0 13 := kk0.trans k0_0
          refine Ex.ite (fun c30 => ?_) (fun c30 => ?_)
          ·
            have c30 := icc_eq (m := (Int32.toInt x24)) (n := 0) rfl (by decide) c30
            refine Ex.cb (sX1_runOne_8 fu hfu p1 g25 L26 hI (by omega)) (fun x31 g32 L33 hq35 => ?_)
            obtain ⟨hI, kk0⟩ := hq35
            have hI : zI XT g32 := hI
            have k0_0 : g32 0 13 = g0 0 13 := kk0.trans k0_0
            generalize z36q : (p1 + 1) = z36
            have e37 : (Int32.toInt z36) = (Int32.toInt p1) + 1 := by rw [← z36q]; exact ic_addc rfl (by decide) (by omega) (by omega)
            refine Ex.cb (sX2_tryFrom_10_L4 fu hfu z36 p2 g32 L33 hI (by omega)) (fun x38 g39 L40 hq42 => ?_)
            obtain ⟨hI, kk0⟩ := hq42
            have hI : zI XT g39 := hI
            have k0_0 : g39 0 13 = g0 0 13 := kk0.trans k0_0
            exact J89 g39 L40 hI k0_0
          ·
            have c30 := icc_neq (m := (Int32.toInt x24)) (n := 0) rfl (by decide) c30
            refine Ex.cb (sX2_tryGapsOf_10_L5 fu hfu p1 p2 g25 L26 hI (by omega)) (fun x43 g44 L45 hq47 => ?_)
            obtain ⟨hI, kk0⟩ := hq47
            have hI : zI XT g44 := hI
            have k0_0 : g44 0 13 = g0 0 13 := kk0.trans k0_0
            exact J89 g44 L45 hI k0_0
      ·
        have c9 := icc_nlt (m := (Int32.toInt p1)) (n := 12) rfl (by decide) c9
        omega
  ·
    have c1 := icc_nlt (m := (Int32.toInt p2)) (n := (Int32.toInt (g0 10 8))) rfl rfl c1
    exact Ex.ret ⟨hI, k0_0⟩
set_option maxHeartbeats 4000000 in
set_option maxRecDepth 100000 in
theorem sX2_tryGapsOf_10_L6 (fu : Nat) (hfu : 1180591620717411303424 ≤ fu) (p1 : Int32) (p2 : Int32) (g0 : Nat → Nat → Int32) (L0 : Nat → Nat → Int64) (hI : zI XT g0) (hp1 : (7 ≤ (Int32.toInt p1) ∧ (Int32.toInt p1) ≤ 11)) : Ex (fX2_tryGapsOf_10 fu (fX2_tryFrom_10 fu 5) p1 p2 g0 L0) (fun (r : Unit) (g1 : Nat → Nat → Int32) (L1 : Nat → Nat → Int64) => zI XT g1 ∧ g1 0 13 = g0 0 13) := by
  have k0_0 : g0 0 13 = g0 0 13 := rfl
  unfold fX2_tryGapsOf_10
  have lp5 : ∀ (v1 : Int32) (v2 : Int32) (v3 : Int32) (v4 : Int32) (g : Nat → Nat → Int32) (L : Nat → Nat → Int64), (7 ≤ (Int32.toInt v1) ∧ (Int32.toInt v1) ≤ 11) → (0 ≤ (Int32.toInt v4) ∧ (Int32.toInt v4) ≤ 5) → zI XT g → g 0 13 = g0 0 13 → Ex (fX2_tryGapsOf_10_l5 fu (fX2_tryFrom_10 fu 5) v1 v2 v3 v4 g L) (fun (r : Unit) (g1 : Nat → Nat → Int32) (L1 : Nat → Nat → Int64) => zI XT g1 ∧ g1 0 13 = g0 0 13) := by
    intro v1 v2 v3 v4 g L hb_v1 hb_v4 hI k0_0
    unfold fX2_tryGapsOf_10_l5
    refine Ex.loop (fun v => ((7 ≤ (Int32.toInt v1) ∧ (Int32.toInt v1) ≤ 11)) ∧ ((0 ≤ (Int32.toInt (v.2.1)) ∧ (Int32.toInt (v.2.1)) ≤ 5)) ∧ (zI XT (v.2.2.1)) ∧ ((v.2.2.1) 0 13 = g0 0 13)) (fun v => 6 - (Int32.toInt (v.2.1))) (by omega) (by show 6 - (Int32.toInt v4) < (fu : Int); omega) ⟨hb_v1, hb_v4, hI, k0_0⟩ (fun k5 v hv ih5 => ?_)
    obtain ⟨v3, v4, g, L⟩ := v
    obtain ⟨hb_v1, hb_v4, hI, k0_0⟩ := hv
    have hb_v1 : (7 ≤ (Int32.toInt v1) ∧ (Int32.toInt v1) ≤ 11) := hb_v1
    have hb_v4 : (0 ≤ (Int32.toInt v4) ∧ (Int32.toInt v4) ≤ 5) := hb_v4
    have hI : zI XT g := hI
    have k0_0 : g 0 13 = g0 0 13 := k0_0
    have ih5 : ∀ v' : Int32 × Int32 × (Nat → Nat → Int32) × (Nat → Nat → Int64), (((7 ≤ (Int32.toInt v1) ∧ (Int32.toInt v1) ≤ 11)) ∧ ((0 ≤ (Int32.toInt (v'.2.1)) ∧ (Int32.toInt (v'.2.1)) ≤ 5)) ∧ (zI XT (v'.2.2.1)) ∧ ((v'.2.2.1) 0 13 = g0 0 13)) → 6 - (Int32.toInt (v'.2.1)) < 6 - (Int32.toInt v4) → 0 < 6 - (Int32.toInt v4) → Ex (k5 v') (fun (r : Unit) (g1 : Nat → Nat → Int32) (L1 : Nat → Nat → Int64) => zI XT g1 ∧ g1 0 13 = g0 0 13) := ih5
    show Ex (fX2_tryGapsOf_10_s5 fu (fX2_tryFrom_10 fu 5) v1 v2 k5 v3 v4 g L) (fun (r : Unit) (g1 : Nat → Nat → Int32) (L1 : Nat → Nat → Int64) => zI XT g1 ∧ g1 0 13 = g0 0 13)
    unfold fX2_tryGapsOf_10_s5
    refine Ex.ite (fun c1 => ?_) (fun c1 => ?_)
    ·
      have c1 := icc_lt (m := 4) (n := (Int32.toInt v4)) (by decide) rfl c1
      exact Ex.ret ⟨hI, k0_0⟩
    ·
      have c1 := icc_nlt (m := 4) (n := (Int32.toInt v4)) (by decide) rfl c1
      refine Ex.ck (by omega) (by omega) ?_
      refine Ex.sti (hI.updN rfl) (fun g2 g2e hI => ?_)
      have k0_0 : g2 0 13 = g0 0 13 := by rw [g2e]; exact k0_0
      refine Ex.cb (sX1_runOne_8 fu hfu v1 g2 L hI (by omega)) (fun x3 g4 L5 hq7 => ?_)
      obtain ⟨hI, kk0⟩ := hq7
      have hI : zI XT g4 := hI
      have k0_0 : g4 0 13 = g0 0 13 := kk0.trans k0_0
      refine Ex.ck (by omega) (by omega) ?_
      have J64 : ∀ (v3 : Int32) (g : Nat → Nat → Int32) (L : Nat → Nat → Int64), (7 ≤ (Int32.toInt v1) ∧ (Int32.toInt v1) ≤ 11) → (0 ≤ (Int32.toInt v4) ∧ (Int32.toInt v4) ≤ 4) → zI XT g → g 0 13 = g0 0 13 → Ex (fX2_tryGapsOf_10_p64 fu (fX2_tryFrom_10 fu 5) k5 v1 v2 v3 v4 g L) (fun (r : Unit) (g1 : Nat → Nat → Int32) (L1 : Nat → Nat → Int64) => zI XT g1 ∧ g1 0 13 = g0 0 13) := by
        intro v3 g L hb_v1 hb_v4 hI k0_0
        unfold fX2_tryGapsOf_10_p64
        generalize z8q : (v4 + 1) = z8
        have e9 : (Int32.toInt z8) = (Int32.toInt v4) + 1 := by rw [← z8q]; exact ic_addc rfl (by decide) (by omega) (by omega)
        exact ih5 (v3, z8, g, L) ⟨(show (7 ≤ (Int32.toInt v1) ∧ (Int32.toInt v1) ≤ 11) from by omega), (show (0 ≤ (Int32.toInt z8) ∧ (Int32.toInt z8) ≤ 5) from by omega), hI, k0_0⟩ (by show 6 - (Int32.toInt z8) < _; omega) (by omega)
      refine Ex.ite (fun c10 => ?_) (fun c10 => ?_)
      ·
        have c10 := icc_eq (m := (Int32.toInt (g4 44 (Int32.toNatClampNeg v1)))) (n := (Int32.toInt v3)) rfl rfl c10
        exact J64 v3 g4 L5 (by omega) (by omega) hI k0_0
      ·
        have c10 := icc_neq (m := (Int32.toInt (g4 44 (Int32.toNatClampNeg v1)))) (n := (Int32.toInt v3)) rfl rfl c10
        refine Ex.ck (by omega) (by omega) ?_
        refine Ex.lti (fun x11 x11e x11i => ?_)
        generalize z12q : (v1 + 1) = z12
        have e13 : (Int32.toInt z12) = (Int32.toInt v1) + 1 := by rw [← z12q]; exact ic_addc rfl (by decide) (by omega) (by omega)
        generalize z14q : (v2 + v4) = z14
        refine Ex.cb (sX2_tryFrom_10_L5 fu hfu z12 z14 g4 L5 hI (by omega)) (fun x15 g16 L17 hq19 => ?_)
        obtain ⟨hI, kk0⟩ := hq19
        have hI : zI XT g16 := hI
        have k0_0 : g16 0 13 = g0 0 13 := kk0.trans k0_0
        exact J64 x11 g16 L17 (by omega) (by omega) hI k0_0
  exact lp5 p1 p2 (-1) 0 g0 L0 (by omega) (by decide) hI k0_0
set_option maxHeartbeats 4000000 in
set_option maxRecDepth 100000 in
theorem sX2_tryFrom_10_L6 (fu : Nat) (hfu : 1180591620717411303424 ≤ fu) (p1 : Int32) (p2 : Int32) (g0 : Nat → Nat → Int32) (L0 : Nat → Nat → Int64) (hI : zI XT g0) (hp1 : (7 ≤ (Int32.toInt p1) ∧ (Int32.toInt p1) ≤ 12)) : Ex (fX2_tryFrom_10 fu 6 p1 p2 g0 L0) (fun (r : Unit) (g1 : Nat → Nat → Int32) (L1 : Nat → Nat → Int64) => zI XT g1 ∧ g1 0 13 = g0 0 13) := by
  have k0_0 : g0 0 13 = g0 0 13 := rfl
  rw [fX2_tryFrom_10_succ]
  unfold fX2_tryFrom_10B
  refine Ex.ite (fun c1 => ?_) (fun c1 => ?_)
  ·
    have c1 := icc_lt (m := (Int32.toInt p2)) (n := (Int32.toInt (g0 10 8))) rfl rfl c1
    have b2 : 0 ≤ (Int32.toInt (g0 10 5)) ∧ (Int32.toInt (g0 10 5)) ≤ 11 := hI 10 5 0 11 rfl
    have J89 : ∀ (g : Nat → Nat → Int32) (L : Nat → Nat → Int64), zI XT g → g 0 13 = g0 0 13 → Ex (fX2_tryFrom_10_p89 fu (fX2_tryFrom_10 fu 5) g L) (fun (r : Unit) (g1 : Nat → Nat → Int32) (L1 : Nat → Nat → Int64) => zI XT g1 ∧ g1 0 13 = g0 0 13) := by
      intro g L hI k0_0
      unfold fX2_tryFrom_10_p89
      exact Ex.ret ⟨hI, k0_0⟩
    have J23 : ∀ (v2 : Int32) (g : Nat → Nat → Int32) (L : Nat → Nat → Int64), zI XT g → g 0 13 = g0 0 13 → Ex (fX2_tryFrom_10_p23 fu (fX2_tryFrom_10 fu 5) v2 g L) (fun (r : Unit) (g1 : Nat → Nat → Int32) (L1 : Nat → Nat → Int64) => zI XT g1 ∧ g1 0 13 = g0 0 13) := by
      intro v2 g L hI k0_0
      unfold fX2_tryFrom_10_p23
      refine Ex.cb (sX2_takeIfOnTime_10 fu hfu v2 g L hI) (fun x3 g4 L5 hq7 => ?_)
      obtain ⟨hI, kk0⟩ := hq7
      have hI : zI XT g4 := hI
      have k0_0 : g4 0 13 = g0 0 13 := kk0.trans k0_0
      exact J89 g4 L5 hI k0_0
    refine Ex.ite (fun c8 => ?_) (fun c8 => ?_)
    ·
      have c8 := icc_lt (m := (Int32.toInt (g0 10 5))) (n := (Int32.toInt p1)) rfl rfl c8
      exact J23 p2 g0 L0 hI k0_0
    ·
      have c8 := icc_nlt (m := (Int32.toInt (g0 10 5))) (n := (Int32.toInt p1)) rfl rfl c8
      refine Ex.ite (fun c9 => ?_) (fun c9 => ?_)
      ·
        have c9 := icc_lt (m := (Int32.toInt p1)) (n := 12) rfl (by decide) c9
        refine Ex.cb (sX2_isIn fu hfu (g0 10 7) p1 g0 L0 hI) (fun x10 g11 L12 hq14 => ?_)
        obtain ⟨hI, kk0, rb_⟩ := hq14
        have b15 : 0 ≤ (Int32.toInt x10) ∧ (Int32.toInt x10) ≤ 1 := rb_
        have hI : zI XT g11 := hI
        have k0_0 : g11 0 13 = g0 0 13 := kk0.trans k0_0
        refine Ex.ite (fun c16 => ?_) (fun c16 => ?_)
        ·
          have c16 := icc_eq (m := (Int32.toInt x10)) (n := 0) rfl (by decide) c16
          generalize z17q : (p1 + 1) = z17
          have e18 : (Int32.toInt z17) = (Int32.toInt p1) + 1 := by rw [← z17q]; exact ic_addc rfl (by decide) (by omega) (by omega)
          refine Ex.cb (sX2_tryFrom_10_L5 fu hfu z17 p2 g11 L12 hI (by omega)) (fun x19 g20 L21 hq23 => ?_)
          obtain ⟨hI, kk0⟩ := hq23
          have hI : zI XT g20 := hI
          have k0_0 : g20 0 13 = g0 0 13 := kk0.trans k0_0
          exact J89 g20 L21 hI k0_0
        ·
          have c16 := icc_neq (m := (Int32.toInt x10)) (n := 0) rfl (by decide) c16
          refine Ex.cb (sX2_isIn fu hfu (g11 10 4) p1 g11 L12 hI) (fun x24 g25 L26 hq28 => ?_)
          obtain ⟨hI, kk0, rb_⟩ := hq28
          have b29 : 0 ≤ (Int32.toInt x24) ∧ (Int32.toInt x24) ≤ 1 := rb_
          have hI : zI XT g25 := hI
          have k0_0 : g25 0 13 = g0 0 13 := kk0.trans k0_0
          refine Ex.ite (fun c30 => ?_) (fun c30 => ?_)
          ·
            have c30 := icc_eq (m := (Int32.toInt x24)) (n := 0) rfl (by decide) c30
            refine Ex.cb (sX1_runOne_8 fu hfu p1 g25 L26 hI (by omega)) (fun x31 g32 L33 hq35 => ?_)
            obtain ⟨hI, kk0⟩ := hq35
            have hI : zI XT g32 := hI
            have k0_0 : g32 0 13 = g0 0 13 := kk0.trans k0_0
            generalize z36q : (p1 + 1) = z36
            have e37 : (Int32.toInt z36) = (Int32.toInt p1) + 1 := by rw [← z36q]; exact ic_addc rfl (by decide) (by omega) (by omega)
            refine Ex.cb (sX2_tryFrom_10_L5 fu hfu z36 p2 g32 L33 hI (by omega)) (fun x38 g39 L40 hq42 => ?_)
            obtain ⟨hI, kk0⟩ := hq42
            have hI : zI XT g39 := hI
            have k0_0 : g39 0 13 = g0 0 13 := kk0.trans k0_0
            exact J89 g39 L40 hI k0_0
          ·
            have c30 := icc_neq (m := (Int32.toInt x24)) (n := 0) rfl (by decide) c30
            refine Ex.cb (sX2_tryGapsOf_10_L6 fu hfu p1 p2 g25 L26 hI (by omega)) (fun x43 g44 L45 hq47 => ?_)
            obtain ⟨hI, kk0⟩ := hq47
            have hI : zI XT g44 := hI
            have k0_0 : g44 0 13 = g0 0 13 := kk0.trans k0_0
            exact J89 g44 L45 hI k0_0
      ·
        have c9 := icc_nlt (m := (Int32.toInt p1)) (n := 12) rfl (by decide) c9
        omega
  ·
    have c1 := icc_nlt (m := (Int32.toInt p2)) (n := (Int32.toInt (g0 10 8))) rfl rfl c1
    exact Ex.ret ⟨hI, k0_0⟩
set_option maxHeartbeats 4000000 in
set_option maxRecDepth 100000 in
theorem sX2_tryGapsOf_10_L7 (fu : Nat) (hfu : 1180591620717411303424 ≤ fu) (p1 : Int32) (p2 : Int32) (g0 : Nat → Nat → Int32) (L0 : Nat → Nat → Int64) (hI : zI XT g0) (hp1 : (6 ≤ (Int32.toInt p1) ∧ (Int32.toInt p1) ≤ 11)) : Ex (fX2_tryGapsOf_10 fu (fX2_tryFrom_10 fu 6) p1 p2 g0 L0) (fun (r : Unit) (g1 : Nat → Nat → Int32) (L1 : Nat → Nat → Int64) => zI XT g1 ∧ g1 0 13 = g0 0 13) := by
  have k0_0 : g0 0 13 = g0 0 13 := rfl
  unfold fX2_tryGapsOf_10
  have lp5 : ∀ (v1 : Int32) (v2 : Int32) (v3 : Int32) (v4 : Int32) (g : Nat → Nat → Int32) (L : Nat → Nat → Int64), (6 ≤ (Int32.toInt v1) ∧ (Int32.toInt v1) ≤ 11) → (0 ≤ (Int32.toInt v4) ∧ (Int32.toInt v4) ≤ 5) → zI XT g → g 0 13 = g0 0 13 → Ex (fX2_tryGapsOf_10_l5 fu (fX2_tryFrom_10 fu 6) v1 v2 v3 v4 g L) (fun (r : Unit) (g1 : Nat → Nat → Int32) (L1 : Nat → Nat → Int64) => zI XT g1 ∧ g1 0 13 = g0 0 13) := by
    intro v1 v2 v3 v4 g L hb_v1 hb_v4 hI k0_0
    unfold fX2_tryGapsOf_10_l5
    refine Ex.loop (fun v => ((6 ≤ (Int32.toInt v1) ∧ (Int32.toInt v1) ≤ 11)) ∧ ((0 ≤ (Int32.toInt (v.2.1)) ∧ (Int32.toInt (v.2.1)) ≤ 5)) ∧ (zI XT (v.2.2.1)) ∧ ((v.2.2.1) 0 13 = g0 0 13)) (fun v => 6 - (Int32.toInt (v.2.1))) (by omega) (by show 6 - (Int32.toInt v4) < (fu : Int); omega) ⟨hb_v1, hb_v4, hI, k0_0⟩ (fun k5 v hv ih5 => ?_)
    obtain ⟨v3, v4, g, L⟩ := v
    obtain ⟨hb_v1, hb_v4, hI, k0_0⟩ := hv
    have hb_v1 : (6 ≤ (Int32.toInt v1) ∧ (Int32.toInt v1) ≤ 11) := hb_v1
    have hb_v4 : (0 ≤ (Int32.toInt v4) ∧ (Int32.toInt v4) ≤ 5) := hb_v4
    have hI : zI XT g := hI
    have k0_0 : g 0 13 = g0 0 13 := k0_0
    have ih5 : ∀ v' : Int32 × Int32 × (Nat → Nat → Int32) × (Nat → Nat → Int64), (((6 ≤ (Int32.toInt v1) ∧ (Int32.toInt v1) ≤ 11)) ∧ ((0 ≤ (Int32.toInt (v'.2.1)) ∧ (Int32.toInt (v'.2.1)) ≤ 5)) ∧ (zI XT (v'.2.2.1)) ∧ ((v'.2.2.1) 0 13 = g0 0 13)) → 6 - (Int32.toInt (v'.2.1)) < 6 - (Int32.toInt v4) → 0 < 6 - (Int32.toInt v4) → Ex (k5 v') (fun (r : Unit) (g1 : Nat → Nat → Int32) (L1 : Nat → Nat → Int64) => zI XT g1 ∧ g1 0 13 = g0 0 13) := ih5
    show Ex (fX2_tryGapsOf_10_s5 fu (fX2_tryFrom_10 fu 6) v1 v2 k5 v3 v4 g L) (fun (r : Unit) (g1 : Nat → Nat → Int32) (L1 : Nat → Nat → Int64) => zI XT g1 ∧ g1 0 13 = g0 0 13)
    unfold fX2_tryGapsOf_10_s5
    refine Ex.ite (fun c1 => ?_) (fun c1 => ?_)
    ·
      have c1 := icc_lt (m := 4) (n := (Int32.toInt v4)) (by decide) rfl c1
      exact Ex.ret ⟨hI, k0_0⟩
    ·
      have c1 := icc_nlt (m := 4) (n := (Int32.toInt v4)) (by decide) rfl c1
      refine Ex.ck (by omega) (by omega) ?_
      refine Ex.sti (hI.updN rfl) (fun g2 g2e hI => ?_)
      have k0_0 : g2 0 13 = g0 0 13 := by rw [g2e]; exact k0_0
      refine Ex.cb (sX1_runOne_8 fu hfu v1 g2 L hI (by omega)) (fun x3 g4 L5 hq7 => ?_)
      obtain ⟨hI, kk0⟩ := hq7
      have hI : zI XT g4 := hI
      have k0_0 : g4 0 13 = g0 0 13 := kk0.trans k0_0
      refine Ex.ck (by omega) (by omega) ?_
      have J64 : ∀ (v3 : Int32) (g : Nat → Nat → Int32) (L : Nat → Nat → Int64), (6 ≤ (Int32.toInt v1) ∧ (Int32.toInt v1) ≤ 11) → (0 ≤ (Int32.toInt v4) ∧ (Int32.toInt v4) ≤ 4) → zI XT g → g 0 13 = g0 0 13 → Ex (fX2_tryGapsOf_10_p64 fu (fX2_tryFrom_10 fu 6) k5 v1 v2 v3 v4 g L) (fun (r : Unit) (g1 : Nat → Nat → Int32) (L1 : Nat → Nat → Int64) => zI XT g1 ∧ g1 0 13 = g0 0 13) := by
        intro v3 g L hb_v1 hb_v4 hI k0_0
        unfold fX2_tryGapsOf_10_p64
        generalize z8q : (v4 + 1) = z8
        have e9 : (Int32.toInt z8) = (Int32.toInt v4) + 1 := by rw [← z8q]; exact ic_addc rfl (by decide) (by omega) (by omega)
        exact ih5 (v3, z8, g, L) ⟨(show (6 ≤ (Int32.toInt v1) ∧ (Int32.toInt v1) ≤ 11) from by omega), (show (0 ≤ (Int32.toInt z8) ∧ (Int32.toInt z8) ≤ 5) from by omega), hI, k0_0⟩ (by show 6 - (Int32.toInt z8) < _; omega) (by omega)
      refine Ex.ite (fun c10 => ?_) (fun c10 => ?_)
      ·
        have c10 := icc_eq (m := (Int32.toInt (g4 44 (Int32.toNatClampNeg v1)))) (n := (Int32.toInt v3)) rfl rfl c10
        exact J64 v3 g4 L5 (by omega) (by omega) hI k0_0
      ·
        have c10 := icc_neq (m := (Int32.toInt (g4 44 (Int32.toNatClampNeg v1)))) (n := (Int32.toInt v3)) rfl rfl c10
        refine Ex.ck (by omega) (by omega) ?_
        refine Ex.lti (fun x11 x11e x11i => ?_)
        generalize z12q : (v1 + 1) = z12
        have e13 : (Int32.toInt z12) = (Int32.toInt v1) + 1 := by rw [← z12q]; exact ic_addc rfl (by decide) (by omega) (by omega)
        generalize z14q : (v2 + v4) = z14
        refine Ex.cb (sX2_tryFrom_10_L6 fu hfu z12 z14 g4 L5 hI (by omega)) (fun x15 g16 L17 hq19 => ?_)
        obtain ⟨hI, kk0⟩ := hq19
        have hI : zI XT g16 := hI
        have k0_0 : g16 0 13 = g0 0 13 := kk0.trans k0_0
        exact J64 x11 g16 L17 (by omega) (by omega) hI k0_0
  exact lp5 p1 p2 (-1) 0 g0 L0 (by omega) (by decide) hI k0_0
set_option maxHeartbeats 4000000 in
set_option maxRecDepth 100000 in
theorem sX2_tryFrom_10_L7 (fu : Nat) (hfu : 1180591620717411303424 ≤ fu) (p1 : Int32) (p2 : Int32) (g0 : Nat → Nat → Int32) (L0 : Nat → Nat → Int64) (hI : zI XT g0) (hp1 : (6 ≤ (Int32.toInt p1) ∧ (Int32.toInt p1) ≤ 12)) : Ex (fX2_tryFrom_10 fu 7 p1 p2 g0 L0) (fun (r : Unit) (g1 : Nat → Nat → Int32) (L1 : Nat → Nat → Int64) => zI XT g1 ∧ g1 0 13 = g0 0 13) := by
  have k0_0 : g0 0 13 = g0 0 13 := rfl
  rw [fX2_tryFrom_10_succ]
  unfold fX2_tryFrom_10B
  refine Ex.ite (fun c1 => ?_) (fun c1 => ?_)
  ·
    have c1 := icc_lt (m := (Int32.toInt p2)) (n := (Int32.toInt (g0 10 8))) rfl rfl c1
    have b2 : 0 ≤ (Int32.toInt (g0 10 5)) ∧ (Int32.toInt (g0 10 5)) ≤ 11 := hI 10 5 0 11 rfl
    have J89 : ∀ (g : Nat → Nat → Int32) (L : Nat → Nat → Int64), zI XT g → g 0 13 = g0 0 13 → Ex (fX2_tryFrom_10_p89 fu (fX2_tryFrom_10 fu 6) g L) (fun (r : Unit) (g1 : Nat → Nat → Int32) (L1 : Nat → Nat → Int64) => zI XT g1 ∧ g1 0 13 = g0 0 13) := by
      intro g L hI k0_0
      unfold fX2_tryFrom_10_p89
      exact Ex.ret ⟨hI, k0_0⟩
    have J23 : ∀ (v2 : Int32) (g : Nat → Nat → Int32) (L : Nat → Nat → Int64), zI XT g → g 0 13 = g0 0 13 → Ex (fX2_tryFrom_10_p23 fu (fX2_tryFrom_10 fu 6) v2 g L) (fun (r : Unit) (g1 : Nat → Nat → Int32) (L1 : Nat → Nat → Int64) => zI XT g1 ∧ g1 0 13 = g0 0 13) := by
      intro v2 g L hI k0_0
      unfold fX2_tryFrom_10_p23
      refine Ex.cb (sX2_takeIfOnTime_10 fu hfu v2 g L hI) (fun x3 g4 L5 hq7 => ?_)
      obtain ⟨hI, kk0⟩ := hq7
      have hI : zI XT g4 := hI
      have k0_0 : g4 0 13 = g0 0 13 := kk0.trans k0_0
      exact J89 g4 L5 hI k0_0
    refine Ex.ite (fun c8 => ?_) (fun c8 => ?_)
    ·
      have c8 := icc_lt (m := (Int32.toInt (g0 10 5))) (n := (Int32.toInt p1)) rfl rfl c8
      exact J23 p2 g0 L0 hI k0_0
    ·
      have c8 := icc_nlt (m := (Int32.toInt (g0 10 5))) (n := (Int32.toInt p1)) rfl rfl c8
      refine Ex.ite (fun c9 => ?_) (fun c9 => ?_)
      ·
        have c9 := icc_lt (m := (Int32.toInt p1)) (n := 12) rfl (by decide) c9
        refine Ex.cb (sX2_isIn fu hfu (g0 10 7) p1 g0 L0 hI) (fun x10 g11 L12 hq14 => ?_)
        obtain ⟨hI, kk0, rb_⟩ := hq14
        have b15 : 0 ≤ (Int32.toInt x10) ∧ (Int32.toInt x10) ≤ 1 := rb_
        have hI : zI XT g11 := hI
        have k0_0 : g11 0 13 = g0 0 13 := kk0.trans k0_0
        refine Ex.ite (fun c16 => ?_) (fun c16 => ?_)
        ·
          have c16 := icc_eq (m := (Int32.toInt x10)) (n := 0) rfl (by decide) c16
          generalize z17q : (p1 + 1) = z17
          have e18 : (Int32.toInt z17) = (Int32.toInt p1) + 1 := by rw [← z17q]; exact ic_addc rfl (by decide) (by omega) (by omega)
          refine Ex.cb (sX2_tryFrom_10_L6 fu hfu z17 p2 g11 L12 hI (by omega)) (fun x19 g20 L21 hq23 => ?_)
          obtain ⟨hI, kk0⟩ := hq23
          have hI : zI XT g20 := hI
          have k0_0 : g20 0 13 = g0 0 13 := kk0.trans k0_0
          exact J89 g20 L21 hI k0_0
        ·
          have c16 := icc_neq (m := (Int32.toInt x10)) (n := 0) rfl (by decide) c16
          refine Ex.cb (sX2_isIn fu hfu (g11 10 4) p1 g11 L12 hI) (fun x24 g25 L26 hq28 => ?_)
          obtain ⟨hI, kk0, rb_⟩ := hq28
          have b29 : 0 ≤ (Int32.toInt x24) ∧ (Int32.toInt x24) ≤ 1 := rb_
          have hI : zI XT g25 := hI
          have k0_0 : g25 0 13 = g0 0 13 := kk0.trans k0_0
          refine Ex.ite (fun c30 => ?_) (fun c30 => ?_)
          ·
            have c30 := icc_eq (m := (Int32.toInt x24)) (n := 0) rfl (by decide) c30
            refine Ex.cb (sX1_runOne_8 fu hfu p1 g25 L26 hI (by omega)) (fun x31 g32 L33 hq35 => ?_)
            obtain ⟨hI, kk0⟩ := hq35
            have hI : zI XT g32 := hI
            have k0_0 : g32 0 13 = g0 0 13 := kk0.trans k0_0
            generalize z36q : (p1 + 1) = z36
            have e37 : (Int32.toInt z36) = (Int32.toInt p1) + 1 := by rw [← z36q]; exact ic_addc rfl (by decide) (by omega) (by omega)
            refine Ex.cb (sX2_tryFrom_10_L6 fu hfu z36 p2 g32 L33 hI (by omega)) (fun x38 g39 L40 hq42 => ?_)
            obtain ⟨hI, kk0⟩ := hq42
            have hI : zI XT g39 := hI
            have k0_0 : g39 0 13 = g0 0 13 := kk0.trans k0_0
            exact J89 g39 L40 hI k0_0
          ·
            have c30 := icc_neq (m := (Int32.toInt x24)) (n := 0) rfl (by decide) c30
            refine Ex.cb (sX2_tryGapsOf_10_L7 fu hfu p1 p2 g25 L26 hI (by omega)) (fun x43 g44 L45 hq47 => ?_)
            obtain ⟨hI, kk0⟩ := hq47
            have hI : zI XT g44 := hI
            have k0_0 : g44 0 13 = g0 0 13 := kk0.trans k0_0
            exact J89 g44 L45 hI k0_0
      ·
        have c9 := icc_nlt (m := (Int32.toInt p1)) (n := 12) rfl (by decide) c9
        omega
  ·
    have c1 := icc_nlt (m := (Int32.toInt p2)) (n := (Int32.toInt (g0 10 8))) rfl rfl c1
    exact Ex.ret ⟨hI, k0_0⟩
set_option maxHeartbeats 4000000 in
set_option maxRecDepth 100000 in
theorem sX2_tryGapsOf_10_L8 (fu : Nat) (hfu : 1180591620717411303424 ≤ fu) (p1 : Int32) (p2 : Int32) (g0 : Nat → Nat → Int32) (L0 : Nat → Nat → Int64) (hI : zI XT g0) (hp1 : (5 ≤ (Int32.toInt p1) ∧ (Int32.toInt p1) ≤ 11)) : Ex (fX2_tryGapsOf_10 fu (fX2_tryFrom_10 fu 7) p1 p2 g0 L0) (fun (r : Unit) (g1 : Nat → Nat → Int32) (L1 : Nat → Nat → Int64) => zI XT g1 ∧ g1 0 13 = g0 0 13) := by
  have k0_0 : g0 0 13 = g0 0 13 := rfl
  unfold fX2_tryGapsOf_10
  have lp5 : ∀ (v1 : Int32) (v2 : Int32) (v3 : Int32) (v4 : Int32) (g : Nat → Nat → Int32) (L : Nat → Nat → Int64), (5 ≤ (Int32.toInt v1) ∧ (Int32.toInt v1) ≤ 11) → (0 ≤ (Int32.toInt v4) ∧ (Int32.toInt v4) ≤ 5) → zI XT g → g 0 13 = g0 0 13 → Ex (fX2_tryGapsOf_10_l5 fu (fX2_tryFrom_10 fu 7) v1 v2 v3 v4 g L) (fun (r : Unit) (g1 : Nat → Nat → Int32) (L1 : Nat → Nat → Int64) => zI XT g1 ∧ g1 0 13 = g0 0 13) := by
    intro v1 v2 v3 v4 g L hb_v1 hb_v4 hI k0_0
    unfold fX2_tryGapsOf_10_l5
    refine Ex.loop (fun v => ((5 ≤ (Int32.toInt v1) ∧ (Int32.toInt v1) ≤ 11)) ∧ ((0 ≤ (Int32.toInt (v.2.1)) ∧ (Int32.toInt (v.2.1)) ≤ 5)) ∧ (zI XT (v.2.2.1)) ∧ ((v.2.2.1) 0 13 = g0 0 13)) (fun v => 6 - (Int32.toInt (v.2.1))) (by omega) (by show 6 - (Int32.toInt v4) < (fu : Int); omega) ⟨hb_v1, hb_v4, hI, k0_0⟩ (fun k5 v hv ih5 => ?_)
    obtain ⟨v3, v4, g, L⟩ := v
    obtain ⟨hb_v1, hb_v4, hI, k0_0⟩ := hv
    have hb_v1 : (5 ≤ (Int32.toInt v1) ∧ (Int32.toInt v1) ≤ 11) := hb_v1
    have hb_v4 : (0 ≤ (Int32.toInt v4) ∧ (Int32.toInt v4) ≤ 5) := hb_v4
    have hI : zI XT g := hI
    have k0_0 : g 0 13 = g0 0 13 := k0_0
    have ih5 : ∀ v' : Int32 × Int32 × (Nat → Nat → Int32) × (Nat → Nat → Int64), (((5 ≤ (Int32.toInt v1) ∧ (Int32.toInt v1) ≤ 11)) ∧ ((0 ≤ (Int32.toInt (v'.2.1)) ∧ (Int32.toInt (v'.2.1)) ≤ 5)) ∧ (zI XT (v'.2.2.1)) ∧ ((v'.2.2.1) 0 13 = g0 0 13)) → 6 - (Int32.toInt (v'.2.1)) < 6 - (Int32.toInt v4) → 0 < 6 - (Int32.toInt v4) → Ex (k5 v') (fun (r : Unit) (g1 : Nat → Nat → Int32) (L1 : Nat → Nat → Int64) => zI XT g1 ∧ g1 0 13 = g0 0 13) := ih5
    show Ex (fX2_tryGapsOf_10_s5 fu (fX2_tryFrom_10 fu 7) v1 v2 k5 v3 v4 g L) (fun (r : Unit) (g1 : Nat → Nat → Int32) (L1 : Nat → Nat → Int64) => zI XT g1 ∧ g1 0 13 = g0 0 13)
    unfold fX2_tryGapsOf_10_s5
    refine Ex.ite (fun c1 => ?_) (fun c1 => ?_)
    ·
      have c1 := icc_lt (m := 4) (n := (Int32.toInt v4)) (by decide) rfl c1
      exact Ex.ret ⟨hI, k0_0⟩
    ·
      have c1 := icc_nlt (m := 4) (n := (Int32.toInt v4)) (by decide) rfl c1
      refine Ex.ck (by omega) (by omega) ?_
      refine Ex.sti (hI.updN rfl) (fun g2 g2e hI => ?_)
      have k0_0 : g2 0 13 = g0 0 13 := by rw [g2e]; exact k0_0
      refine Ex.cb (sX1_runOne_8 fu hfu v1 g2 L hI (by omega)) (fun x3 g4 L5 hq7 => ?_)
      obtain ⟨hI, kk0⟩ := hq7
      have hI : zI XT g4 := hI
      have k0_0 : g4 0 13 = g0 0 13 := kk0.trans k0_0
      refine Ex.ck (by omega) (by omega) ?_
      have J64 : ∀ (v3 : Int32) (g : Nat → Nat → Int32) (L : Nat → Nat → Int64), (5 ≤ (Int32.toInt v1) ∧ (Int32.toInt v1) ≤ 11) → (0 ≤ (Int32.toInt v4) ∧ (Int32.toInt v4) ≤ 4) → zI XT g → g 0 13 = g0 0 13 → Ex (fX2_tryGapsOf_10_p64 fu (fX2_tryFrom_10 fu 7) k5 v1 v2 v3 v4 g L) (fun (r : Unit) (g1 : Nat → Nat → Int32) (L1 : Nat → Nat → Int64) => zI XT g1 ∧ g1 0 13 = g0 0 13) := by
        intro v3 g L hb_v1 hb_v4 hI k0_0
        unfold fX2_tryGapsOf_10_p64
        generalize z8q : (v4 + 1) = z8
        have e9 : (Int32.toInt z8) = (Int32.toInt v4) + 1 := by rw [← z8q]; exact ic_addc rfl (by decide) (by omega) (by omega)
        exact ih5 (v3, z8, g, L) ⟨(show (5 ≤ (Int32.toInt v1) ∧ (Int32.toInt v1) ≤ 11) from by omega), (show (0 ≤ (Int32.toInt z8) ∧ (Int32.toInt z8) ≤ 5) from by omega), hI, k0_0⟩ (by show 6 - (Int32.toInt z8) < _; omega) (by omega)
      refine Ex.ite (fun c10 => ?_) (fun c10 => ?_)
      ·
        have c10 := icc_eq (m := (Int32.toInt (g4 44 (Int32.toNatClampNeg v1)))) (n := (Int32.toInt v3)) rfl rfl c10
        exact J64 v3 g4 L5 (by omega) (by omega) hI k0_0
      ·
        have c10 := icc_neq (m := (Int32.toInt (g4 44 (Int32.toNatClampNeg v1)))) (n := (Int32.toInt v3)) rfl rfl c10
        refine Ex.ck (by omega) (by omega) ?_
        refine Ex.lti (fun x11 x11e x11i => ?_)
        generalize z12q : (v1 + 1) = z12
        have e13 : (Int32.toInt z12) = (Int32.toInt v1) + 1 := by rw [← z12q]; exact ic_addc rfl (by decide) (by omega) (by omega)
        generalize z14q : (v2 + v4) = z14
        refine Ex.cb (sX2_tryFrom_10_L7 fu hfu z12 z14 g4 L5 hI (by omega)) (fun x15 g16 L17 hq19 => ?_)
        obtain ⟨hI, kk0⟩ := hq19
        have hI : zI XT g16 := hI
        have k0_0 : g16 0 13 = g0 0 13 := kk0.trans k0_0
        exact J64 x11 g16 L17 (by omega) (by omega) hI k0_0
  exact lp5 p1 p2 (-1) 0 g0 L0 (by omega) (by decide) hI k0_0
set_option maxHeartbeats 4000000 in
set_option maxRecDepth 100000 in
theorem sX2_tryFrom_10_L8 (fu : Nat) (hfu : 1180591620717411303424 ≤ fu) (p1 : Int32) (p2 : Int32) (g0 : Nat → Nat → Int32) (L0 : Nat → Nat → Int64) (hI : zI XT g0) (hp1 : (5 ≤ (Int32.toInt p1) ∧ (Int32.toInt p1) ≤ 12)) : Ex (fX2_tryFrom_10 fu 8 p1 p2 g0 L0) (fun (r : Unit) (g1 : Nat → Nat → Int32) (L1 : Nat → Nat → Int64) => zI XT g1 ∧ g1 0 13 = g0 0 13) := by
  have k0_0 : g0 0 13 = g0 0 13 := rfl
  rw [fX2_tryFrom_10_succ]
  unfold fX2_tryFrom_10B
  refine Ex.ite (fun c1 => ?_) (fun c1 => ?_)
  ·
    have c1 := icc_lt (m := (Int32.toInt p2)) (n := (Int32.toInt (g0 10 8))) rfl rfl c1
    have b2 : 0 ≤ (Int32.toInt (g0 10 5)) ∧ (Int32.toInt (g0 10 5)) ≤ 11 := hI 10 5 0 11 rfl
    have J89 : ∀ (g : Nat → Nat → Int32) (L : Nat → Nat → Int64), zI XT g → g 0 13 = g0 0 13 → Ex (fX2_tryFrom_10_p89 fu (fX2_tryFrom_10 fu 7) g L) (fun (r : Unit) (g1 : Nat → Nat → Int32) (L1 : Nat → Nat → Int64) => zI XT g1 ∧ g1 0 13 = g0 0 13) := by
      intro g L hI k0_0
      unfold fX2_tryFrom_10_p89
      exact Ex.ret ⟨hI, k0_0⟩
    have J23 : ∀ (v2 : Int32) (g : Nat → Nat → Int32) (L : Nat → Nat → Int64), zI XT g → g 0 13 = g0 0 13 → Ex (fX2_tryFrom_10_p23 fu (fX2_tryFrom_10 fu 7) v2 g L) (fun (r : Unit) (g1 : Nat → Nat → Int32) (L1 : Nat → Nat → Int64) => zI XT g1 ∧ g1 0 13 = g0 0 13) := by
      intro v2 g L hI k0_0
      unfold fX2_tryFrom_10_p23
      refine Ex.cb (sX2_takeIfOnTime_10 fu hfu v2 g L hI) (fun x3 g4 L5 hq7 => ?_)
      obtain ⟨hI, kk0⟩ := hq7
      have hI : zI XT g4 := hI
      have k0_0 : g4 0 13 = g0 0 13 := kk0.trans k0_0
      exact J89 g4 L5 hI k0_0
    refine Ex.ite (fun c8 => ?_) (fun c8 => ?_)
    ·
      have c8 := icc_lt (m := (Int32.toInt (g0 10 5))) (n := (Int32.toInt p1)) rfl rfl c8
      exact J23 p2 g0 L0 hI k0_0
    ·
      have c8 := icc_nlt (m := (Int32.toInt (g0 10 5))) (n := (Int32.toInt p1)) rfl rfl c8
      refine Ex.ite (fun c9 => ?_) (fun c9 => ?_)
      ·
        have c9 := icc_lt (m := (Int32.toInt p1)) (n := 12) rfl (by decide) c9
        refine Ex.cb (sX2_isIn fu hfu (g0 10 7) p1 g0 L0 hI) (fun x10 g11 L12 hq14 => ?_)
        obtain ⟨hI, kk0, rb_⟩ := hq14
        have b15 : 0 ≤ (Int32.toInt x10) ∧ (Int32.toInt x10) ≤ 1 := rb_
        have hI : zI XT g11 := hI
        have k0_0 : g11 0 13 = g0 0 13 := kk0.trans k0_0
        refine Ex.ite (fun c16 => ?_) (fun c16 => ?_)
        ·
          have c16 := icc_eq (m := (Int32.toInt x10)) (n := 0) rfl (by decide) c16
          generalize z17q : (p1 + 1) = z17
          have e18 : (Int32.toInt z17) = (Int32.toInt p1) + 1 := by rw [← z17q]; exact ic_addc rfl (by decide) (by omega) (by omega)
          refine Ex.cb (sX2_tryFrom_10_L7 fu hfu z17 p2 g11 L12 hI (by omega)) (fun x19 g20 L21 hq23 => ?_)
          obtain ⟨hI, kk0⟩ := hq23
          have hI : zI XT g20 := hI
          have k0_0 : g20 0 13 = g0 0 13 := kk0.trans k0_0
          exact J89 g20 L21 hI k0_0
        ·
          have c16 := icc_neq (m := (Int32.toInt x10)) (n := 0) rfl (by decide) c16
          refine Ex.cb (sX2_isIn fu hfu (g11 10 4) p1 g11 L12 hI) (fun x24 g25 L26 hq28 => ?_)
          obtain ⟨hI, kk0, rb_⟩ := hq28
          have b29 : 0 ≤ (Int32.toInt x24) ∧ (Int32.toInt x24) ≤ 1 := rb_
          have hI : zI XT g25 := hI
          have k0_0 : g25 0 13 = g0 0 13 := kk0.trans k0_0
          refine Ex.ite (fun c30 => ?_) (fun c30 => ?_)
          ·
            have c30 := icc_eq (m := (Int32.toInt x24)) (n := 0) rfl (by decide) c30
            refine Ex.cb (sX1_runOne_8 fu hfu p1 g25 L26 hI (by omega)) (fun x31 g32 L33 hq35 => ?_)
            obtain ⟨hI, kk0⟩ := hq35
            have hI : zI XT g32 := hI
            have k0_0 : g32 0 13 = g0 0 13 := kk0.trans k0_0
            generalize z36q : (p1 + 1) = z36
            have e37 : (Int32.toInt z36) = (Int32.toInt p1) + 1 := by rw [← z36q]; exact ic_addc rfl (by decide) (by omega) (by omega)
            refine Ex.cb (sX2_tryFrom_10_L7 fu hfu z36 p2 g32 L33 hI (by omega)) (fun x38 g39 L40 hq42 => ?_)
            obtain ⟨hI, kk0⟩ := hq42
            have hI : zI XT g39 := hI
            have k0_0 : g39 0 13 = g0 0 13 := kk0.trans k0_0
            exact J89 g39 L40 hI k0_0
          ·
            have c30 := icc_neq (m := (Int32.toInt x24)) (n := 0) rfl (by decide) c30
            refine Ex.cb (sX2_tryGapsOf_10_L8 fu hfu p1 p2 g25 L26 hI (by omega)) (fun x43 g44 L45 hq47 => ?_)
            obtain ⟨hI, kk0⟩ := hq47
            have hI : zI XT g44 := hI
            have k0_0 : g44 0 13 = g0 0 13 := kk0.trans k0_0
            exact J89 g44 L45 hI k0_0
      ·
        have c9 := icc_nlt (m := (Int32.toInt p1)) (n := 12) rfl (by decide) c9
        omega
  ·
    have c1 := icc_nlt (m := (Int32.toInt p2)) (n := (Int32.toInt (g0 10 8))) rfl rfl c1
    exact Ex.ret ⟨hI, k0_0⟩
set_option maxHeartbeats 4000000 in
set_option maxRecDepth 100000 in
theorem sX2_tryGapsOf_10_L9 (fu : Nat) (hfu : 1180591620717411303424 ≤ fu) (p1 : Int32) (p2 : Int32) (g0 : Nat → Nat → Int32) (L0 : Nat → Nat → Int64) (hI : zI XT g0) (hp1 : (4 ≤ (Int32.toInt p1) ∧ (Int32.toInt p1) ≤ 11)) : Ex (fX2_tryGapsOf_10 fu (fX2_tryFrom_10 fu 8) p1 p2 g0 L0) (fun (r : Unit) (g1 : Nat → Nat → Int32) (L1 : Nat → Nat → Int64) => zI XT g1 ∧ g1 0 13 = g0 0 13) := by
  have k0_0 : g0 0 13 = g0 0 13 := rfl
  unfold fX2_tryGapsOf_10
  have lp5 : ∀ (v1 : Int32) (v2 : Int32) (v3 : Int32) (v4 : Int32) (g : Nat → Nat → Int32) (L : Nat → Nat → Int64), (4 ≤ (Int32.toInt v1) ∧ (Int32.toInt v1) ≤ 11) → (0 ≤ (Int32.toInt v4) ∧ (Int32.toInt v4) ≤ 5) → zI XT g → g 0 13 = g0 0 13 → Ex (fX2_tryGapsOf_10_l5 fu (fX2_tryFrom_10 fu 8) v1 v2 v3 v4 g L) (fun (r : Unit) (g1 : Nat → Nat → Int32) (L1 : Nat → Nat → Int64) => zI XT g1 ∧ g1 0 13 = g0 0 13) := by
    intro v1 v2 v3 v4 g L hb_v1 hb_v4 hI k0_0
    unfold fX2_tryGapsOf_10_l5
    refine Ex.loop (fun v => ((4 ≤ (Int32.toInt v1) ∧ (Int32.toInt v1) ≤ 11)) ∧ ((0 ≤ (Int32.toInt (v.2.1)) ∧ (Int32.toInt (v.2.1)) ≤ 5)) ∧ (zI XT (v.2.2.1)) ∧ ((v.2.2.1) 0 13 = g0 0 13)) (fun v => 6 - (Int32.toInt (v.2.1))) (by omega) (by show 6 - (Int32.toInt v4) < (fu : Int); omega) ⟨hb_v1, hb_v4, hI, k0_0⟩ (fun k5 v hv ih5 => ?_)
    obtain ⟨v3, v4, g, L⟩ := v
    obtain ⟨hb_v1, hb_v4, hI, k0_0⟩ := hv
    have hb_v1 : (4 ≤ (Int32.toInt v1) ∧ (Int32.toInt v1) ≤ 11) := hb_v1
    have hb_v4 : (0 ≤ (Int32.toInt v4) ∧ (Int32.toInt v4) ≤ 5) := hb_v4
    have hI : zI XT g := hI
    have k0_0 : g 0 13 = g0 0 13 := k0_0
    have ih5 : ∀ v' : Int32 × Int32 × (Nat → Nat → Int32) × (Nat → Nat → Int64), (((4 ≤ (Int32.toInt v1) ∧ (Int32.toInt v1) ≤ 11)) ∧ ((0 ≤ (Int32.toInt (v'.2.1)) ∧ (Int32.toInt (v'.2.1)) ≤ 5)) ∧ (zI XT (v'.2.2.1)) ∧ ((v'.2.2.1) 0 13 = g0 0 13)) → 6 - (Int32.toInt (v'.2.1)) < 6 - (Int32.toInt v4) → 0 < 6 - (Int32.toInt v4) → Ex (k5 v') (fun (r : Unit) (g1 : Nat → Nat → Int32) (L1 : Nat → Nat → Int64) => zI XT g1 ∧ g1 0 13 = g0 0 13) := ih5
    show Ex (fX2_tryGapsOf_10_s5 fu (fX2_tryFrom_10 fu 8) v1 v2 k5 v3 v4 g L) (fun (r : Unit) (g1 : Nat → Nat → Int32) (L1 : Nat → Nat → Int64) => zI XT g1 ∧ g1 0 13 = g0 0 13)
    unfold fX2_tryGapsOf_10_s5
    refine Ex.ite (fun c1 => ?_) (fun c1 => ?_)
    ·
      have c1 := icc_lt (m := 4) (n := (Int32.toInt v4)) (by decide) rfl c1
      exact Ex.ret ⟨hI, k0_0⟩
    ·
      have c1 := icc_nlt (m := 4) (n := (Int32.toInt v4)) (by decide) rfl c1
      refine Ex.ck (by omega) (by omega) ?_
      refine Ex.sti (hI.updN rfl) (fun g2 g2e hI => ?_)
      have k0_0 : g2 0 13 = g0 0 13 := by rw [g2e]; exact k0_0
      refine Ex.cb (sX1_runOne_8 fu hfu v1 g2 L hI (by omega)) (fun x3 g4 L5 hq7 => ?_)
      obtain ⟨hI, kk0⟩ := hq7
      have hI : zI XT g4 := hI
      have k0_0 : g4 0 13 = g0 0 13 := kk0.trans k0_0
      refine Ex.ck (by omega) (by omega) ?_
      have J64 : ∀ (v3 : Int32) (g : Nat → Nat → Int32) (L : Nat → Nat → Int64), (4 ≤ (Int32.toInt v1) ∧ (Int32.toInt v1) ≤ 11) → (0 ≤ (Int32.toInt v4) ∧ (Int32.toInt v4) ≤ 4) → zI XT g → g 0 13 = g0 0 13 → Ex (fX2_tryGapsOf_10_p64 fu (fX2_tryFrom_10 fu 8) k5 v1 v2 v3 v4 g L) (fun (r : Unit) (g1 : Nat → Nat → Int32) (L1 : Nat → Nat → Int64) => zI XT g1 ∧ g1 0 13 = g0 0 13) := by
        intro v3 g L hb_v1 hb_v4 hI k0_0
        unfold fX2_tryGapsOf_10_p64
        generalize z8q : (v4 + 1) = z8
        have e9 : (Int32.toInt z8) = (Int32.toInt v4) + 1 := by rw [← z8q]; exact ic_addc rfl (by decide) (by omega) (by omega)
        exact ih5 (v3, z8, g, L) ⟨(show (4 ≤ (Int32.toInt v1) ∧ (Int32.toInt v1) ≤ 11) from by omega), (show (0 ≤ (Int32.toInt z8) ∧ (Int32.toInt z8) ≤ 5) from by omega), hI, k0_0⟩ (by show 6 - (Int32.toInt z8) < _; omega) (by omega)
      refine Ex.ite (fun c10 => ?_) (fun c10 => ?_)
      ·
        have c10 := icc_eq (m := (Int32.toInt (g4 44 (Int32.toNatClampNeg v1)))) (n := (Int32.toInt v3)) rfl rfl c10
        exact J64 v3 g4 L5 (by omega) (by omega) hI k0_0
      ·
        have c10 := icc_neq (m := (Int32.toInt (g4 44 (Int32.toNatClampNeg v1)))) (n := (Int32.toInt v3)) rfl rfl c10
        refine Ex.ck (by omega) (by omega) ?_
        refine Ex.lti (fun x11 x11e x11i => ?_)
        generalize z12q : (v1 + 1) = z12
        have e13 : (Int32.toInt z12) = (Int32.toInt v1) + 1 := by rw [← z12q]; exact ic_addc rfl (by decide) (by omega) (by omega)
        generalize z14q : (v2 + v4) = z14
        refine Ex.cb (sX2_tryFrom_10_L8 fu hfu z12 z14 g4 L5 hI (by omega)) (fun x15 g16 L17 hq19 => ?_)
        obtain ⟨hI, kk0⟩ := hq19
        have hI : zI XT g16 := hI
        have k0_0 : g16 0 13 = g0 0 13 := kk0.trans k0_0
        exact J64 x11 g16 L17 (by omega) (by omega) hI k0_0
  exact lp5 p1 p2 (-1) 0 g0 L0 (by omega) (by decide) hI k0_0
set_option maxHeartbeats 4000000 in
set_option maxRecDepth 100000 in
theorem sX2_tryFrom_10_L9 (fu : Nat) (hfu : 1180591620717411303424 ≤ fu) (p1 : Int32) (p2 : Int32) (g0 : Nat → Nat → Int32) (L0 : Nat → Nat → Int64) (hI : zI XT g0) (hp1 : (4 ≤ (Int32.toInt p1) ∧ (Int32.toInt p1) ≤ 12)) : Ex (fX2_tryFrom_10 fu 9 p1 p2 g0 L0) (fun (r : Unit) (g1 : Nat → Nat → Int32) (L1 : Nat → Nat → Int64) => zI XT g1 ∧ g1 0 13 = g0 0 13) := by
  have k0_0 : g0 0 13 = g0 0 13 := rfl
  rw [fX2_tryFrom_10_succ]
  unfold fX2_tryFrom_10B
  refine Ex.ite (fun c1 => ?_) (fun c1 => ?_)
  ·
    have c1 := icc_lt (m := (Int32.toInt p2)) (n := (Int32.toInt (g0 10 8))) rfl rfl c1
    have b2 : 0 ≤ (Int32.toInt (g0 10 5)) ∧ (Int32.toInt (g0 10 5)) ≤ 11 := hI 10 5 0 11 rfl
    have J89 : ∀ (g : Nat → Nat → Int32) (L : Nat → Nat → Int64), zI XT g → g 0 13 = g0 0 13 → Ex (fX2_tryFrom_10_p89 fu (fX2_tryFrom_10 fu 8) g L) (fun (r : Unit) (g1 : Nat → Nat → Int32) (L1 : Nat → Nat → Int64) => zI XT g1 ∧ g1 0 13 = g0 0 13) := by
      intro g L hI k0_0
      unfold fX2_tryFrom_10_p89
      exact Ex.ret ⟨hI, k0_0⟩
    have J23 : ∀ (v2 : Int32) (g : Nat → Nat → Int32) (L : Nat → Nat → Int64), zI XT g → g 0 13 = g0 0 13 → Ex (fX2_tryFrom_10_p23 fu (fX2_tryFrom_10 fu 8) v2 g L) (fun (r : Unit) (g1 : Nat → Nat → Int32) (L1 : Nat → Nat → Int64) => zI XT g1 ∧ g1 0 13 = g0 0 13) := by
      intro v2 g L hI k0_0
      unfold fX2_tryFrom_10_p23
      refine Ex.cb (sX2_takeIfOnTime_10 fu hfu v2 g L hI) (fun x3 g4 L5 hq7 => ?_)
      obtain ⟨hI, kk0⟩ := hq7
      have hI : zI XT g4 := hI
      have k0_0 : g4 0 13 = g0 0 13 := kk0.trans k0_0
      exact J89 g4 L5 hI k0_0
    refine Ex.ite (fun c8 => ?_) (fun c8 => ?_)
    ·
      have c8 := icc_lt (m := (Int32.toInt (g0 10 5))) (n := (Int32.toInt p1)) rfl rfl c8
      exact J23 p2 g0 L0 hI k0_0
    ·
      have c8 := icc_nlt (m := (Int32.toInt (g0 10 5))) (n := (Int32.toInt p1)) rfl rfl c8
      refine Ex.ite (fun c9 => ?_) (fun c9 => ?_)
      ·
        have c9 := icc_lt (m := (Int32.toInt p1)) (n := 12) rfl (by decide) c9
        refine Ex.cb (sX2_isIn fu hfu (g0 10 7) p1 g0 L0 hI) (fun x10 g11 L12 hq14 => ?_)
        obtain ⟨hI, kk0, rb_⟩ := hq14
        have b15 : 0 ≤ (Int32.toInt x10) ∧ (Int32.toInt x10) ≤ 1 := rb_
        have hI : zI XT g11 := hI
        have k0_0 : g11 0 13 = g0 0 13 := kk0.trans k0_0
        refine Ex.ite (fun c16 => ?_) (fun c16 => ?_)
        ·
          have c16 := icc_eq (m := (Int32.toInt x10)) (n := 0) rfl (by decide) c16
          generalize z17q : (p1 + 1) = z17
          have e18 : (Int32.toInt z17) = (Int32.toInt p1) + 1 := by rw [← z17q]; exact ic_addc rfl (by decide) (by omega) (by omega)
          refine Ex.cb (sX2_tryFrom_10_L8 fu hfu z17 p2 g11 L12 hI (by omega)) (fun x19 g20 L21 hq23 => ?_)
          obtain ⟨hI, kk0⟩ := hq23
          have hI : zI XT g20 := hI
          have k0_0 : g20 0 13 = g0 0 13 := kk0.trans k0_0
          exact J89 g20 L21 hI k0_0
        ·
          have c16 := icc_neq (m := (Int32.toInt x10)) (n := 0) rfl (by decide) c16
          refine Ex.cb (sX2_isIn fu hfu (g11 10 4) p1 g11 L12 hI) (fun x24 g25 L26 hq28 => ?_)
          obtain ⟨hI, kk0, rb_⟩ := hq28
          have b29 : 0 ≤ (Int32.toInt x24) ∧ (Int32.toInt x24) ≤ 1 := rb_
          have hI : zI XT g25 := hI
          have k0_0 : g25 0 13 = g0 0 13 := kk0.trans k0_0
          refine Ex.ite (fun c30 => ?_) (fun c30 => ?_)
          ·
            have c30 := icc_eq (m := (Int32.toInt x24)) (n := 0) rfl (by decide) c30
            refine Ex.cb (sX1_runOne_8 fu hfu p1 g25 L26 hI (by omega)) (fun x31 g32 L33 hq35 => ?_)
            obtain ⟨hI, kk0⟩ := hq35
            have hI : zI XT g32 := hI
            have k0_0 : g32 0 13 = g0 0 13 := kk0.trans k0_0
            generalize z36q : (p1 + 1) = z36
            have e37 : (Int32.toInt z36) = (Int32.toInt p1) + 1 := by rw [← z36q]; exact ic_addc rfl (by decide) (by omega) (by omega)
            refine Ex.cb (sX2_tryFrom_10_L8 fu hfu z36 p2 g32 L33 hI (by omega)) (fun x38 g39 L40 hq42 => ?_)
            obtain ⟨hI, kk0⟩ := hq42
            have hI : zI XT g39 := hI
            have k0_0 : g39 0 13 = g0 0 13 := kk0.trans k0_0
            exact J89 g39 L40 hI k0_0
          ·
            have c30 := icc_neq (m := (Int32.toInt x24)) (n := 0) rfl (by decide) c30
            refine Ex.cb (sX2_tryGapsOf_10_L9 fu hfu p1 p2 g25 L26 hI (by omega)) (fun x43 g44 L45 hq47 => ?_)
            obtain ⟨hI, kk0⟩ := hq47
            have hI : zI XT g44 := hI
            have k0_0 : g44 0 13 = g0 0 13 := kk0.trans k0_0
            exact J89 g44 L45 hI k0_0
      ·
        have c9 := icc_nlt (m := (Int32.toInt p1)) (n := 12) rfl (by decide) c9
        omega
  ·
    have c1 := icc_nlt (m := (Int32.toInt p2)) (n := (Int32.toInt (g0 10 8))) rfl rfl c1
    exact Ex.ret ⟨hI, k0_0⟩
set_option maxHeartbeats 4000000 in
set_option maxRecDepth 100000 in
theorem sX2_tryGapsOf_10_L10 (fu : Nat) (hfu : 1180591620717411303424 ≤ fu) (p1 : Int32) (p2 : Int32) (g0 : Nat → Nat → Int32) (L0 : Nat → Nat → Int64) (hI : zI XT g0) (hp1 : (3 ≤ (Int32.toInt p1) ∧ (Int32.toInt p1) ≤ 11)) : Ex (fX2_tryGapsOf_10 fu (fX2_tryFrom_10 fu 9) p1 p2 g0 L0) (fun (r : Unit) (g1 : Nat → Nat → Int32) (L1 : Nat → Nat → Int64) => zI XT g1 ∧ g1 0 13 = g0 0 13) := by
  have k0_0 : g0 0 13 = g0 0 13 := rfl
  unfold fX2_tryGapsOf_10
  have lp5 : ∀ (v1 : Int32) (v2 : Int32) (v3 : Int32) (v4 : Int32) (g : Nat → Nat → Int32) (L : Nat → Nat → Int64), (3 ≤ (Int32.toInt v1) ∧ (Int32.toInt v1) ≤ 11) → (0 ≤ (Int32.toInt v4) ∧ (Int32.toInt v4) ≤ 5) → zI XT g → g 0 13 = g0 0 13 → Ex (fX2_tryGapsOf_10_l5 fu (fX2_tryFrom_10 fu 9) v1 v2 v3 v4 g L) (fun (r : Unit) (g1 : Nat → Nat → Int32) (L1 : Nat → Nat → Int64) => zI XT g1 ∧ g1 0 13 = g0 0 13) := by
    intro v1 v2 v3 v4 g L hb_v1 hb_v4 hI k0_0
    unfold fX2_tryGapsOf_10_l5
    refine Ex.loop (fun v => ((3 ≤ (Int32.toInt v1) ∧ (Int32.toInt v1) ≤ 11)) ∧ ((0 ≤ (Int32.toInt (v.2.1)) ∧ (Int32.toInt (v.2.1)) ≤ 5)) ∧ (zI XT (v.2.2.1)) ∧ ((v.2.2.1) 0 13 = g0 0 13)) (fun v => 6 - (Int32.toInt (v.2.1))) (by omega) (by show 6 - (Int32.toInt v4) < (fu : Int); omega) ⟨hb_v1, hb_v4, hI, k0_0⟩ (fun k5 v hv ih5 => ?_)
    obtain ⟨v3, v4, g, L⟩ := v
    obtain ⟨hb_v1, hb_v4, hI, k0_0⟩ := hv
    have hb_v1 : (3 ≤ (Int32.toInt v1) ∧ (Int32.toInt v1) ≤ 11) := hb_v1
    have hb_v4 : (0 ≤ (Int32.toInt v4) ∧ (Int32.toInt v4) ≤ 5) := hb_v4
    have hI : zI XT g := hI
    have k0_0 : g 0 13 = g0 0 13 := k0_0
    have ih5 : ∀ v' : Int32 × Int32 × (Nat → Nat → Int32) × (Nat → Nat → Int64), (((3 ≤ (Int32.toInt v1) ∧ (Int32.toInt v1) ≤ 11)) ∧ ((0 ≤ (Int32.toInt (v'.2.1)) ∧ (Int32.toInt (v'.2.1)) ≤ 5)) ∧ (zI XT (v'.2.2.1)) ∧ ((v'.2.2.1) 0 13 = g0 0 13)) → 6 - (Int32.toInt (v'.2.1)) < 6 - (Int32.toInt v4) → 0 < 6 - (Int32.toInt v4) → Ex (k5 v') (fun (r : Unit) (g1 : Nat → Nat → Int32) (L1 : Nat → Nat → Int64) => zI XT g1 ∧ g1 0 13 = g0 0 13) := ih5
    show Ex (fX2_tryGapsOf_10_s5 fu (fX2_tryFrom_10 fu 9) v1 v2 k5 v3 v4 g L) (fun (r : Unit) (g1 : Nat → Nat → Int32) (L1 : Nat → Nat → Int64) => zI XT g1 ∧ g1 0 13 = g0 0 13)
    unfold fX2_tryGapsOf_10_s5
    refine Ex.ite (fun c1 => ?_) (fun c1 => ?_)
    ·
      have c1 := icc_lt (m := 4) (n := (Int32.toInt v4)) (by decide) rfl c1
      exact Ex.ret ⟨hI, k0_0⟩
    ·
      have c1 := icc_nlt (m := 4) (n := (Int32.toInt v4)) (by decide) rfl c1
      refine Ex.ck (by omega) (by omega) ?_
      refine Ex.sti (hI.updN rfl) (fun g2 g2e hI => ?_)
      have k0_0 : g2 0 13 = g0 0 13 := by rw [g2e]; exact k0_0
      refine Ex.cb (sX1_runOne_8 fu hfu v1 g2 L hI (by omega)) (fun x3 g4 L5 hq7 => ?_)
      obtain ⟨hI, kk0⟩ := hq7
      have hI : zI XT g4 := hI
      have k0_0 : g4 0 13 = g0 0 13 := kk0.trans k0_0
      refine Ex.ck (by omega) (by omega) ?_
      have J64 : ∀ (v3 : Int32) (g : Nat → Nat → Int32) (L : Nat → Nat → Int64), (3 ≤ (Int32.toInt v1) ∧ (Int32.toInt v1) ≤ 11) → (0 ≤ (Int32.toInt v4) ∧ (Int32.toInt v4) ≤ 4) → zI XT g → g 0 13 = g0 0 13 → Ex (fX2_tryGapsOf_10_p64 fu (fX2_tryFrom_10 fu 9) k5 v1 v2 v3 v4 g L) (fun (r : Unit) (g1 : Nat → Nat → Int32) (L1 : Nat → Nat → Int64) => zI XT g1 ∧ g1 0 13 = g0 0 13) := by
        intro v3 g L hb_v1 hb_v4 hI k0_0
        unfold fX2_tryGapsOf_10_p64
        generalize z8q : (v4 + 1) = z8
        have e9 : (Int32.toInt z8) = (Int32.toInt v4) + 1 := by rw [← z8q]; exact ic_addc rfl (by decide) (by omega) (by omega)
        exact ih5 (v3, z8, g, L) ⟨(show (3 ≤ (Int32.toInt v1) ∧ (Int32.toInt v1) ≤ 11) from by omega), (show (0 ≤ (Int32.toInt z8) ∧ (Int32.toInt z8) ≤ 5) from by omega), hI, k0_0⟩ (by show 6 - (Int32.toInt z8) < _; omega) (by omega)
      refine Ex.ite (fun c10 => ?_) (fun c10 => ?_)
      ·
        have c10 := icc_eq (m := (Int32.toInt (g4 44 (Int32.toNatClampNeg v1)))) (n := (Int32.toInt v3)) rfl rfl c10
        exact J64 v3 g4 L5 (by omega) (by omega) hI k0_0
      ·
        have c10 := icc_neq (m := (Int32.toInt (g4 44 (Int32.toNatClampNeg v1)))) (n := (Int32.toInt v3)) rfl rfl c10
        refine Ex.ck (by omega) (by omega) ?_
        refine Ex.lti (fun x11 x11e x11i => ?_)
        generalize z12q : (v1 + 1) = z12
        have e13 : (Int32.toInt z12) = (Int32.toInt v1) + 1 := by rw [← z12q]; exact ic_addc rfl (by decide) (by omega) (by omega)
        generalize z14q : (v2 + v4) = z14
        refine Ex.cb (sX2_tryFrom_10_L9 fu hfu z12 z14 g4 L5 hI (by omega)) (fun x15 g16 L17 hq19 => ?_)
        obtain ⟨hI, kk0⟩ := hq19
        have hI : zI XT g16 := hI
        have k0_0 : g16 0 13 = g0 0 13 := kk0.trans k0_0
        exact J64 x11 g16 L17 (by omega) (by omega) hI k0_0
  exact lp5 p1 p2 (-1) 0 g0 L0 (by omega) (by decide) hI k0_0
set_option maxHeartbeats 4000000 in
set_option maxRecDepth 100000 in
theorem sX2_tryFrom_10_L10 (fu : Nat) (hfu : 1180591620717411303424 ≤ fu) (p1 : Int32) (p2 : Int32) (g0 : Nat → Nat → Int32) (L0 : Nat → Nat → Int64) (hI : zI XT g0) (hp1 : (3 ≤ (Int32.toInt p1) ∧ (Int32.toInt p1) ≤ 12)) : Ex (fX2_tryFrom_10 fu 10 p1 p2 g0 L0) (fun (r : Unit) (g1 : Nat → Nat → Int32) (L1 : Nat → Nat → Int64) => zI XT g1 ∧ g1 0 13 = g0 0 13) := by
  have k0_0 : g0 0 13 = g0 0 13 := rfl
  rw [fX2_tryFrom_10_succ]
  unfold fX2_tryFrom_10B
  refine Ex.ite (fun c1 => ?_) (fun c1 => ?_)
  ·
    have c1 := icc_lt (m := (Int32.toInt p2)) (n := (Int32.toInt (g0 10 8))) rfl rfl c1
    have b2 : 0 ≤ (Int32.toInt (g0 10 5)) ∧ (Int32.toInt (g0 10 5)) ≤ 11 := hI 10 5 0 11 rfl
    have J89 : ∀ (g : Nat → Nat → Int32) (L : Nat → Nat → Int64), zI XT g → g 0 13 = g0 0 13 → Ex (fX2_tryFrom_10_p89 fu (fX2_tryFrom_10 fu 9) g L) (fun (r : Unit) (g1 : Nat → Nat → Int32) (L1 : Nat → Nat → Int64) => zI XT g1 ∧ g1 0 13 = g0 0 13) := by
      intro g L hI k0_0
      unfold fX2_tryFrom_10_p89
      exact Ex.ret ⟨hI, k0_0⟩
    have J23 : ∀ (v2 : Int32) (g : Nat → Nat → Int32) (L : Nat → Nat → Int64), zI XT g → g 0 13 = g0 0 13 → Ex (fX2_tryFrom_10_p23 fu (fX2_tryFrom_10 fu 9) v2 g L) (fun (r : Unit) (g1 : Nat → Nat → Int32) (L1 : Nat → Nat → Int64) => zI XT g1 ∧ g1 0 13 = g0 0 13) := by
      intro v2 g L hI k0_0
      unfold fX2_tryFrom_10_p23
      refine Ex.cb (sX2_takeIfOnTime_10 fu hfu v2 g L hI) (fun x3 g4 L5 hq7 => ?_)
      obtain ⟨hI, kk0⟩ := hq7
      have hI : zI XT g4 := hI
      have k0_0 : g4 0 13 = g0 0 13 := kk0.trans k0_0
      exact J89 g4 L5 hI k0_0
    refine Ex.ite (fun c8 => ?_) (fun c8 => ?_)
    ·
      have c8 := icc_lt (m := (Int32.toInt (g0 10 5))) (n := (Int32.toInt p1)) rfl rfl c8
      exact J23 p2 g0 L0 hI k0_0
    ·
      have c8 := icc_nlt (m := (Int32.toInt (g0 10 5))) (n := (Int32.toInt p1)) rfl rfl c8
      refine Ex.ite (fun c9 => ?_) (fun c9 => ?_)
      ·
        have c9 := icc_lt (m := (Int32.toInt p1)) (n := 12) rfl (by decide) c9
        refine Ex.cb (sX2_isIn fu hfu (g0 10 7) p1 g0 L0 hI) (fun x10 g11 L12 hq14 => ?_)
        obtain ⟨hI, kk0, rb_⟩ := hq14
        have b15 : 0 ≤ (Int32.toInt x10) ∧ (Int32.toInt x10) ≤ 1 := rb_
        have hI : zI XT g11 := hI
        have k0_0 : g11 0 13 = g0 0 13 := kk0.trans k0_0
        refine Ex.ite (fun c16 => ?_) (fun c16 => ?_)
        ·
          have c16 := icc_eq (m := (Int32.toInt x10)) (n := 0) rfl (by decide) c16
          generalize z17q : (p1 + 1) = z17
          have e18 : (Int32.toInt z17) = (Int32.toInt p1) + 1 := by rw [← z17q]; exact ic_addc rfl (by decide) (by omega) (by omega)
          refine Ex.cb (sX2_tryFrom_10_L9 fu hfu z17 p2 g11 L12 hI (by omega)) (fun x19 g20 L21 hq23 => ?_)
          obtain ⟨hI, kk0⟩ := hq23
          have hI : zI XT g20 := hI
          have k0_0 : g20 0 13 = g0 0 13 := kk0.trans k0_0
          exact J89 g20 L21 hI k0_0
        ·
          have c16 := icc_neq (m := (Int32.toInt x10)) (n := 0) rfl (by decide) c16
          refine Ex.cb (sX2_isIn fu hfu (g11 10 4) p1 g11 L12 hI) (fun x24 g25 L26 hq28 => ?_)
          obtain ⟨hI, kk0, rb_⟩ := hq28
          have b29 : 0 ≤ (Int32.toInt x24) ∧ (Int32.toInt x24) ≤ 1 := rb_
          have hI : zI XT g25 := hI
          have k0_0 : g25 0 13 = g0 0 13 := kk0.trans k0_0
          refine Ex.ite (fun c30 => ?_) (fun c30 => ?_)
          ·
            have c30 := icc_eq (m := (Int32.toInt x24)) (n := 0) rfl (by decide) c30
            refine Ex.cb (sX1_runOne_8 fu hfu p1 g25 L26 hI (by omega)) (fun x31 g32 L33 hq35 => ?_)
            obtain ⟨hI, kk0⟩ := hq35
            have hI : zI XT g32 := hI
            have k0_0 : g32 0 13 = g0 0 13 := kk0.trans k0_0
            generalize z36q : (p1 + 1) = z36
            have e37 : (Int32.toInt z36) = (Int32.toInt p1) + 1 := by rw [← z36q]; exact ic_addc rfl (by decide) (by omega) (by omega)
            refine Ex.cb (sX2_tryFrom_10_L9 fu hfu z36 p2 g32 L33 hI (by omega)) (fun x38 g39 L40 hq42 => ?_)
            obtain ⟨hI, kk0⟩ := hq42
            have hI : zI XT g39 := hI
            have k0_0 : g39 0 13 = g0 0 13 := kk0.trans k0_0
            exact J89 g39 L40 hI k0_0
          ·
            have c30 := icc_neq (m := (Int32.toInt x24)) (n := 0) rfl (by decide) c30
            refine Ex.cb (sX2_tryGapsOf_10_L10 fu hfu p1 p2 g25 L26 hI (by omega)) (fun x43 g44 L45 hq47 => ?_)
            obtain ⟨hI, kk0⟩ := hq47
            have hI : zI XT g44 := hI
            have k0_0 : g44 0 13 = g0 0 13 := kk0.trans k0_0
            exact J89 g44 L45 hI k0_0
      ·
        have c9 := icc_nlt (m := (Int32.toInt p1)) (n := 12) rfl (by decide) c9
        omega
  ·
    have c1 := icc_nlt (m := (Int32.toInt p2)) (n := (Int32.toInt (g0 10 8))) rfl rfl c1
    exact Ex.ret ⟨hI, k0_0⟩
set_option maxHeartbeats 4000000 in
set_option maxRecDepth 100000 in
theorem sX2_tryGapsOf_10_L11 (fu : Nat) (hfu : 1180591620717411303424 ≤ fu) (p1 : Int32) (p2 : Int32) (g0 : Nat → Nat → Int32) (L0 : Nat → Nat → Int64) (hI : zI XT g0) (hp1 : (2 ≤ (Int32.toInt p1) ∧ (Int32.toInt p1) ≤ 11)) : Ex (fX2_tryGapsOf_10 fu (fX2_tryFrom_10 fu 10) p1 p2 g0 L0) (fun (r : Unit) (g1 : Nat → Nat → Int32) (L1 : Nat → Nat → Int64) => zI XT g1 ∧ g1 0 13 = g0 0 13) := by
  have k0_0 : g0 0 13 = g0 0 13 := rfl
  unfold fX2_tryGapsOf_10
  have lp5 : ∀ (v1 : Int32) (v2 : Int32) (v3 : Int32) (v4 : Int32) (g : Nat → Nat → Int32) (L : Nat → Nat → Int64), (2 ≤ (Int32.toInt v1) ∧ (Int32.toInt v1) ≤ 11) → (0 ≤ (Int32.toInt v4) ∧ (Int32.toInt v4) ≤ 5) → zI XT g → g 0 13 = g0 0 13 → Ex (fX2_tryGapsOf_10_l5 fu (fX2_tryFrom_10 fu 10) v1 v2 v3 v4 g L) (fun (r : Unit) (g1 : Nat → Nat → Int32) (L1 : Nat → Nat → Int64) => zI XT g1 ∧ g1 0 13 = g0 0 13) := by
    intro v1 v2 v3 v4 g L hb_v1 hb_v4 hI k0_0
    unfold fX2_tryGapsOf_10_l5
    refine Ex.loop (fun v => ((2 ≤ (Int32.toInt v1) ∧ (Int32.toInt v1) ≤ 11)) ∧ ((0 ≤ (Int32.toInt (v.2.1)) ∧ (Int32.toInt (v.2.1)) ≤ 5)) ∧ (zI XT (v.2.2.1)) ∧ ((v.2.2.1) 0 13 = g0 0 13)) (fun v => 6 - (Int32.toInt (v.2.1))) (by omega) (by show 6 - (Int32.toInt v4) < (fu : Int); omega) ⟨hb_v1, hb_v4, hI, k0_0⟩ (fun k5 v hv ih5 => ?_)
    obtain ⟨v3, v4, g, L⟩ := v
    obtain ⟨hb_v1, hb_v4, hI, k0_0⟩ := hv
    have hb_v1 : (2 ≤ (Int32.toInt v1) ∧ (Int32.toInt v1) ≤ 11) := hb_v1
    have hb_v4 : (0 ≤ (Int32.toInt v4) ∧ (Int32.toInt v4) ≤ 5) := hb_v4
    have hI : zI XT g := hI
    have k0_0 : g 0 13 = g0 0 13 := k0_0
    have ih5 : ∀ v' : Int32 × Int32 × (Nat → Nat → Int32) × (Nat → Nat → Int64), (((2 ≤ (Int32.toInt v1) ∧ (Int32.toInt v1) ≤ 11)) ∧ ((0 ≤ (Int32.toInt (v'.2.1)) ∧ (Int32.toInt (v'.2.1)) ≤ 5)) ∧ (zI XT (v'.2.2.1)) ∧ ((v'.2.2.1) 0 13 = g0 0 13)) → 6 - (Int32.toInt (v'.2.1)) < 6 - (Int32.toInt v4) → 0 < 6 - (Int32.toInt v4) → Ex (k5 v') (fun (r : Unit) (g1 : Nat → Nat → Int32) (L1 : Nat → Nat → Int64) => zI XT g1 ∧ g1 0 13 = g0 0 13) := ih5
    show Ex (fX2_tryGapsOf_10_s5 fu (fX2_tryFrom_10 fu 10) v1 v2 k5 v3 v4 g L) (fun (r : Unit) (g1 : Nat → Nat → Int32) (L1 : Nat → Nat → Int64) => zI XT g1 ∧ g1 0 13 = g0 0 13)
    unfold fX2_tryGapsOf_10_s5
    refine Ex.ite (fun c1 => ?_) (fun c1 => ?_)
    ·
      have c1 := icc_lt (m := 4) (n := (Int32.toInt v4)) (by decide) rfl c1
      exact Ex.ret ⟨hI, k0_0⟩
    ·
      have c1 := icc_nlt (m := 4) (n := (Int32.toInt v4)) (by decide) rfl c1
      refine Ex.ck (by omega) (by omega) ?_
      refine Ex.sti (hI.updN rfl) (fun g2 g2e hI => ?_)
      have k0_0 : g2 0 13 = g0 0 13 := by rw [g2e]; exact k0_0
      refine Ex.cb (sX1_runOne_8 fu hfu v1 g2 L hI (by omega)) (fun x3 g4 L5 hq7 => ?_)
      obtain ⟨hI, kk0⟩ := hq7
      have hI : zI XT g4 := hI
      have k0_0 : g4 0 13 = g0 0 13 := kk0.trans k0_0
      refine Ex.ck (by omega) (by omega) ?_
      have J64 : ∀ (v3 : Int32) (g : Nat → Nat → Int32) (L : Nat → Nat → Int64), (2 ≤ (Int32.toInt v1) ∧ (Int32.toInt v1) ≤ 11) → (0 ≤ (Int32.toInt v4) ∧ (Int32.toInt v4) ≤ 4) → zI XT g → g 0 13 = g0 0 13 → Ex (fX2_tryGapsOf_10_p64 fu (fX2_tryFrom_10 fu 10) k5 v1 v2 v3 v4 g L) (fun (r : Unit) (g1 : Nat → Nat → Int32) (L1 : Nat → Nat → Int64) => zI XT g1 ∧ g1 0 13 = g0 0 13) := by
        intro v3 g L hb_v1 hb_v4 hI k0_0
        unfold fX2_tryGapsOf_10_p64
        generalize z8q : (v4 + 1) = z8
        have e9 : (Int32.toInt z8) = (Int32.toInt v4) + 1 := by rw [← z8q]; exact ic_addc rfl (by decide) (by omega) (by omega)
        exact ih5 (v3, z8, g, L) ⟨(show (2 ≤ (Int32.toInt v1) ∧ (Int32.toInt v1) ≤ 11) from by omega), (show (0 ≤ (Int32.toInt z8) ∧ (Int32.toInt z8) ≤ 5) from by omega), hI, k0_0⟩ (by show 6 - (Int32.toInt z8) < _; omega) (by omega)
      refine Ex.ite (fun c10 => ?_) (fun c10 => ?_)
      ·
        have c10 := icc_eq (m := (Int32.toInt (g4 44 (Int32.toNatClampNeg v1)))) (n := (Int32.toInt v3)) rfl rfl c10
        exact J64 v3 g4 L5 (by omega) (by omega) hI k0_0
      ·
        have c10 := icc_neq (m := (Int32.toInt (g4 44 (Int32.toNatClampNeg v1)))) (n := (Int32.toInt v3)) rfl rfl c10
        refine Ex.ck (by omega) (by omega) ?_
        refine Ex.lti (fun x11 x11e x11i => ?_)
        generalize z12q : (v1 + 1) = z12
        have e13 : (Int32.toInt z12) = (Int32.toInt v1) + 1 := by rw [← z12q]; exact ic_addc rfl (by decide) (by omega) (by omega)
        generalize z14q : (v2 + v4) = z14
        refine Ex.cb (sX2_tryFrom_10_L10 fu hfu z12 z14 g4 L5 hI (by omega)) (fun x15 g16 L17 hq19 => ?_)
        obtain ⟨hI, kk0⟩ := hq19
        have hI : zI XT g16 := hI
        have k0_0 : g16 0 13 = g0 0 13 := kk0.trans k0_0
        exact J64 x11 g16 L17 (by omega) (by omega) hI k0_0
  exact lp5 p1 p2 (-1) 0 g0 L0 (by omega) (by decide) hI k0_0
set_option maxHeartbeats 4000000 in
set_option maxRecDepth 100000 in
theorem sX2_tryFrom_10_L11 (fu : Nat) (hfu : 1180591620717411303424 ≤ fu) (p1 : Int32) (p2 : Int32) (g0 : Nat → Nat → Int32) (L0 : Nat → Nat → Int64) (hI : zI XT g0) (hp1 : (2 ≤ (Int32.toInt p1) ∧ (Int32.toInt p1) ≤ 12)) : Ex (fX2_tryFrom_10 fu 11 p1 p2 g0 L0) (fun (r : Unit) (g1 : Nat → Nat → Int32) (L1 : Nat → Nat → Int64) => zI XT g1 ∧ g1 0 13 = g0 0 13) := by
  have k0_0 : g0 0 13 = g0 0 13 := rfl
  rw [fX2_tryFrom_10_succ]
  unfold fX2_tryFrom_10B
  refine Ex.ite (fun c1 => ?_) (fun c1 => ?_)
  ·
    have c1 := icc_lt (m := (Int32.toInt p2)) (n := (Int32.toInt (g0 10 8))) rfl rfl c1
    have b2 : 0 ≤ (Int32.toInt (g0 10 5)) ∧ (Int32.toInt (g0 10 5)) ≤ 11 := hI 10 5 0 11 rfl
    have J89 : ∀ (g : Nat → Nat → Int32) (L : Nat → Nat → Int64), zI XT g → g 0 13 = g0 0 13 → Ex (fX2_tryFrom_10_p89 fu (fX2_tryFrom_10 fu 10) g L) (fun (r : Unit) (g1 : Nat → Nat → Int32) (L1 : Nat → Nat → Int64) => zI XT g1 ∧ g1 0 13 = g0 0 13) := by
      intro g L hI k0_0
      unfold fX2_tryFrom_10_p89
      exact Ex.ret ⟨hI, k0_0⟩
    have J23 : ∀ (v2 : Int32) (g : Nat → Nat → Int32) (L : Nat → Nat → Int64), zI XT g → g 0 13 = g0 0 13 → Ex (fX2_tryFrom_10_p23 fu (fX2_tryFrom_10 fu 10) v2 g L) (fun (r : Unit) (g1 : Nat → Nat → Int32) (L1 : Nat → Nat → Int64) => zI XT g1 ∧ g1 0 13 = g0 0 13) := by
      intro v2 g L hI k0_0
      unfold fX2_tryFrom_10_p23
      refine Ex.cb (sX2_takeIfOnTime_10 fu hfu v2 g L hI) (fun x3 g4 L5 hq7 => ?_)
      obtain ⟨hI, kk0⟩ := hq7
      have hI : zI XT g4 := hI
      have k0_0 : g4 0 13 = g0 0 13 := kk0.trans k0_0
      exact J89 g4 L5 hI k0_0
    refine Ex.ite (fun c8 => ?_) (fun c8 => ?_)
    ·
      have c8 := icc_lt (m := (Int32.toInt (g0 10 5))) (n := (Int32.toInt p1)) rfl rfl c8
      exact J23 p2 g0 L0 hI k0_0
    ·
      have c8 := icc_nlt (m := (Int32.toInt (g0 10 5))) (n := (Int32.toInt p1)) rfl rfl c8
      refine Ex.ite (fun c9 => ?_) (fun c9 => ?_)
      ·
        have c9 := icc_lt (m := (Int32.toInt p1)) (n := 12) rfl (by decide) c9
        refine Ex.cb (sX2_isIn fu hfu (g0 10 7) p1 g0 L0 hI) (fun x10 g11 L12 hq14 => ?_)
        obtain ⟨hI, kk0, rb_⟩ := hq14
        have b15 : 0 ≤ (Int32.toInt x10) ∧ (Int32.toInt x10) ≤ 1 := rb_
        have hI : zI XT g11 := hI
        have k0_0 : g11 0 13 = g0 0 13 := kk0.trans k0_0
        refine Ex.ite (fun c16 => ?_) (fun c16 => ?_)
        ·
          have c16 := icc_eq (m := (Int32.toInt x10)) (n := 0) rfl (by decide) c16
          generalize z17q : (p1 + 1) = z17
          have e18 : (Int32.toInt z17) = (Int32.toInt p1) + 1 := by rw [← z17q]; exact ic_addc rfl (by decide) (by omega) (by omega)
          refine Ex.cb (sX2_tryFrom_10_L10 fu hfu z17 p2 g11 L12 hI (by omega)) (fun x19 g20 L21 hq23 => ?_)
          obtain ⟨hI, kk0⟩ := hq23
          have hI : zI XT g20 := hI
          have k0_0 : g20 0 13 = g0 0 13 := kk0.trans k0_0
          exact J89 g20 L21 hI k0_0
        ·
          have c16 := icc_neq (m := (Int32.toInt x10)) (n := 0) rfl (by decide) c16
          refine Ex.cb (sX2_isIn fu hfu (g11 10 4) p1 g11 L12 hI) (fun x24 g25 L26 hq28 => ?_)
          obtain ⟨hI, kk0, rb_⟩ := hq28
          have b29 : 0 ≤ (Int32.toInt x24) ∧ (Int32.toInt x24) ≤ 1 := rb_
          have hI : zI XT g25 := hI
          have k0_0 : g25 0 13 = g0 0 13 := kk0.trans k0_0
          refine Ex.ite (fun c30 => ?_) (fun c30 => ?_)
          ·
            have c30 := icc_eq (m := (Int32.toInt x24)) (n := 0) rfl (by decide) c30
            refine Ex.cb (sX1_runOne_8 fu hfu p1 g25 L26 hI (by omega)) (fun x31 g32 L33 hq35 => ?_)
            obtain ⟨hI, kk0⟩ := hq35
            have hI : zI XT g32 := hI
            have k0_0 : g32 0 13 = g0 0 13 := kk0.trans k0_0
            generalize z36q : (p1 + 1) = z36
            have e37 : (Int32.toInt z36) = (Int32.toInt p1) + 1 := by rw [← z36q]; exact ic_addc rfl (by decide) (by omega) (by omega)
            refine Ex.cb (sX2_tryFrom_10_L10 fu hfu z36 p2 g32 L33 hI (by omega)) (fun x38 g39 L40 hq42 => ?_)
            obtain ⟨hI, kk0⟩ := hq42
            have hI : zI XT g39 := hI
            have k0_0 : g39 0 13 = g0 0 13 := kk0.trans k0_0
            exact J89 g39 L40 hI k0_0
          ·
            have c30 := icc_neq (m := (Int32.toInt x24)) (n := 0) rfl (by decide) c30
            refine Ex.cb (sX2_tryGapsOf_10_L11 fu hfu p1 p2 g25 L26 hI (by omega)) (fun x43 g44 L45 hq47 => ?_)
            obtain ⟨hI, kk0⟩ := hq47
            have hI : zI XT g44 := hI
            have k0_0 : g44 0 13 = g0 0 13 := kk0.trans k0_0
            exact J89 g44 L45 hI k0_0
      ·
        have c9 := icc_nlt (m := (Int32.toInt p1)) (n := 12) rfl (by decide) c9
        omega
  ·
    have c1 := icc_nlt (m := (Int32.toInt p2)) (n := (Int32.toInt (g0 10 8))) rfl rfl c1
    exact Ex.ret ⟨hI, k0_0⟩
set_option maxHeartbeats 4000000 in
set_option maxRecDepth 100000 in
theorem sX2_tryGapsOf_10_L12 (fu : Nat) (hfu : 1180591620717411303424 ≤ fu) (p1 : Int32) (p2 : Int32) (g0 : Nat → Nat → Int32) (L0 : Nat → Nat → Int64) (hI : zI XT g0) (hp1 : (1 ≤ (Int32.toInt p1) ∧ (Int32.toInt p1) ≤ 11)) : Ex (fX2_tryGapsOf_10 fu (fX2_tryFrom_10 fu 11) p1 p2 g0 L0) (fun (r : Unit) (g1 : Nat → Nat → Int32) (L1 : Nat → Nat → Int64) => zI XT g1 ∧ g1 0 13 = g0 0 13) := by
  have k0_0 : g0 0 13 = g0 0 13 := rfl
  unfold fX2_tryGapsOf_10
  have lp5 : ∀ (v1 : Int32) (v2 : Int32) (v3 : Int32) (v4 : Int32) (g : Nat → Nat → Int32) (L : Nat → Nat → Int64), (1 ≤ (Int32.toInt v1) ∧ (Int32.toInt v1) ≤ 11) → (0 ≤ (Int32.toInt v4) ∧ (Int32.toInt v4) ≤ 5) → zI XT g → g 0 13 = g0 0 13 → Ex (fX2_tryGapsOf_10_l5 fu (fX2_tryFrom_10 fu 11) v1 v2 v3 v4 g L) (fun (r : Unit) (g1 : Nat → Nat → Int32) (L1 : Nat → Nat → Int64) => zI XT g1 ∧ g1 0 13 = g0 0 13) := by
    intro v1 v2 v3 v4 g L hb_v1 hb_v4 hI k0_0
    unfold fX2_tryGapsOf_10_l5
    refine Ex.loop (fun v => ((1 ≤ (Int32.toInt v1) ∧ (Int32.toInt v1) ≤ 11)) ∧ ((0 ≤ (Int32.toInt (v.2.1)) ∧ (Int32.toInt (v.2.1)) ≤ 5)) ∧ (zI XT (v.2.2.1)) ∧ ((v.2.2.1) 0 13 = g0 0 13)) (fun v => 6 - (Int32.toInt (v.2.1))) (by omega) (by show 6 - (Int32.toInt v4) < (fu : Int); omega) ⟨hb_v1, hb_v4, hI, k0_0⟩ (fun k5 v hv ih5 => ?_)
    obtain ⟨v3, v4, g, L⟩ := v
    obtain ⟨hb_v1, hb_v4, hI, k0_0⟩ := hv
    have hb_v1 : (1 ≤ (Int32.toInt v1) ∧ (Int32.toInt v1) ≤ 11) := hb_v1
    have hb_v4 : (0 ≤ (Int32.toInt v4) ∧ (Int32.toInt v4) ≤ 5) := hb_v4
    have hI : zI XT g := hI
    have k0_0 : g 0 13 = g0 0 13 := k0_0
    have ih5 : ∀ v' : Int32 × Int32 × (Nat → Nat → Int32) × (Nat → Nat → Int64), (((1 ≤ (Int32.toInt v1) ∧ (Int32.toInt v1) ≤ 11)) ∧ ((0 ≤ (Int32.toInt (v'.2.1)) ∧ (Int32.toInt (v'.2.1)) ≤ 5)) ∧ (zI XT (v'.2.2.1)) ∧ ((v'.2.2.1) 0 13 = g0 0 13)) → 6 - (Int32.toInt (v'.2.1)) < 6 - (Int32.toInt v4) → 0 < 6 - (Int32.toInt v4) → Ex (k5 v') (fun (r : Unit) (g1 : Nat → Nat → Int32) (L1 : Nat → Nat → Int64) => zI XT g1 ∧ g1 0 13 = g0 0 13) := ih5
    show Ex (fX2_tryGapsOf_10_s5 fu (fX2_tryFrom_10 fu 11) v1 v2 k5 v3 v4 g L) (fun (r : Unit) (g1 : Nat → Nat → Int32) (L1 : Nat → Nat → Int64) => zI XT g1 ∧ g1 0 13 = g0 0 13)
    unfold fX2_tryGapsOf_10_s5
    refine Ex.ite (fun c1 => ?_) (fun c1 => ?_)
    ·
      have c1 := icc_lt (m := 4) (n := (Int32.toInt v4)) (by decide) rfl c1
      exact Ex.ret ⟨hI, k0_0⟩
    ·
      have c1 := icc_nlt (m := 4) (n := (Int32.toInt v4)) (by decide) rfl c1
      refine Ex.ck (by omega) (by omega) ?_
      refine Ex.sti (hI.updN rfl) (fun g2 g2e hI => ?_)
      have k0_0 : g2 0 13 = g0 0 13 := by rw [g2e]; exact k0_0
      refine Ex.cb (sX1_runOne_8 fu hfu v1 g2 L hI (by omega)) (fun x3 g4 L5 hq7 => ?_)
      obtain ⟨hI, kk0⟩ := hq7
      have hI : zI XT g4 := hI
      have k0_0 : g4 0 13 = g0 0 13 := kk0.trans k0_0
      refine Ex.ck (by omega) (by omega) ?_
      have J64 : ∀ (v3 : Int32) (g : Nat → Nat → Int32) (L : Nat → Nat → Int64), (1 ≤ (Int32.toInt v1) ∧ (Int32.toInt v1) ≤ 11) → (0 ≤ (Int32.toInt v4) ∧ (Int32.toInt v4) ≤ 4) → zI XT g → g 0 13 = g0 0 13 → Ex (fX2_tryGapsOf_10_p64 fu (fX2_tryFrom_10 fu 11) k5 v1 v2 v3 v4 g L) (fun (r : Unit) (g1 : Nat → Nat → Int32) (L1 : Nat → Nat → Int64) => zI XT g1 ∧ g1 0 13 = g0 0 13) := by
        intro v3 g L hb_v1 hb_v4 hI k0_0
        unfold fX2_tryGapsOf_10_p64
        generalize z8q : (v4 + 1) = z8
        have e9 : (Int32.toInt z8) = (Int32.toInt v4) + 1 := by rw [← z8q]; exact ic_addc rfl (by decide) (by omega) (by omega)
        exact ih5 (v3, z8, g, L) ⟨(show (1 ≤ (Int32.toInt v1) ∧ (Int32.toInt v1) ≤ 11) from by omega), (show (0 ≤ (Int32.toInt z8) ∧ (Int32.toInt z8) ≤ 5) from by omega), hI, k0_0⟩ (by show 6 - (Int32.toInt z8) < _; omega) (by omega)
      refine Ex.ite (fun c10 => ?_) (fun c10 => ?_)
      ·
        have c10 := icc_eq (m := (Int32.toInt (g4 44 (Int32.toNatClampNeg v1)))) (n := (Int32.toInt v3)) rfl rfl c10
        exact J64 v3 g4 L5 (by omega) (by omega) hI k0_0
      ·
        have c10 := icc_neq (m := (Int32.toInt (g4 44 (Int32.toNatClampNeg v1)))) (n := (Int32.toInt v3)) rfl rfl c10
        refine Ex.ck (by omega) (by omega) ?_
        refine Ex.lti (fun x11 x11e x11i => ?_)
        generalize z12q : (v1 + 1) = z12
        have e13 : (Int32.toInt z12) = (Int32.toInt v1) + 1 := by rw [← z12q]; exact ic_addc rfl (by decide) (by omega) (by omega)
        generalize z14q : (v2 + v4) = z14
        refine Ex.cb (sX2_tryFrom_10_L11 fu hfu z12 z14 g4 L5 hI (by omega)) (fun x15 g16 L17 hq19 => ?_)
        obtain ⟨hI, kk0⟩ := hq19
        have hI : zI XT g16 := hI
        have k0_0 : g16 0 13 = g0 0 13 := kk0.trans k0_0
        exact J64 x11 g16 L17 (by omega) (by omega) hI k0_0
  exact lp5 p1 p2 (-1) 0 g0 L0 (by omega) (by decide) hI k0_0
set_option maxHeartbeats 4000000 in
set_option maxRecDepth 100000 in
theorem sX2_tryFrom_10_L12 (fu : Nat) (hfu : 1180591620717411303424 ≤ fu) (p1 : Int32) (p2 : Int32) (g0 : Nat → Nat → Int32) (L0 : Nat → Nat → Int64) (hI : zI XT g0) (hp1 : (1 ≤ (Int32.toInt p1) ∧ (Int32.toInt p1) ≤ 12)) : Ex (fX2_tryFrom_10 fu 12 p1 p2 g0 L0) (fun (r : Unit) (g1 : Nat → Nat → Int32) (L1 : Nat → Nat → Int64) => zI XT g1 ∧ g1 0 13 = g0 0 13) := by
  have k0_0 : g0 0 13 = g0 0 13 := rfl
  rw [fX2_tryFrom_10_succ]
  unfold fX2_tryFrom_10B
  refine Ex.ite (fun c1 => ?_) (fun c1 => ?_)
  ·
    have c1 := icc_lt (m := (Int32.toInt p2)) (n := (Int32.toInt (g0 10 8))) rfl rfl c1
    have b2 : 0 ≤ (Int32.toInt (g0 10 5)) ∧ (Int32.toInt (g0 10 5)) ≤ 11 := hI 10 5 0 11 rfl
    have J89 : ∀ (g : Nat → Nat → Int32) (L : Nat → Nat → Int64), zI XT g → g 0 13 = g0 0 13 → Ex (fX2_tryFrom_10_p89 fu (fX2_tryFrom_10 fu 11) g L) (fun (r : Unit) (g1 : Nat → Nat → Int32) (L1 : Nat → Nat → Int64) => zI XT g1 ∧ g1 0 13 = g0 0 13) := by
      intro g L hI k0_0
      unfold fX2_tryFrom_10_p89
      exact Ex.ret ⟨hI, k0_0⟩
    have J23 : ∀ (v2 : Int32) (g : Nat → Nat → Int32) (L : Nat → Nat → Int64), zI XT g → g 0 13 = g0 0 13 → Ex (fX2_tryFrom_10_p23 fu (fX2_tryFrom_10 fu 11) v2 g L) (fun (r : Unit) (g1 : Nat → Nat → Int32) (L1 : Nat → Nat → Int64) => zI XT g1 ∧ g1 0 13 = g0 0 13) := by
      intro v2 g L hI k0_0
      unfold fX2_tryFrom_10_p23
      refine Ex.cb (sX2_takeIfOnTime_10 fu hfu v2 g L hI) (fun x3 g4 L5 hq7 => ?_)
      obtain ⟨hI, kk0⟩ := hq7
      have hI : zI XT g4 := hI
      have k0_0 : g4 0 13 = g0 0 13 := kk0.trans k0_0
      exact J89 g4 L5 hI k0_0
    refine Ex.ite (fun c8 => ?_) (fun c8 => ?_)
    ·
      have c8 := icc_lt (m := (Int32.toInt (g0 10 5))) (n := (Int32.toInt p1)) rfl rfl c8
      exact J23 p2 g0 L0 hI k0_0
    ·
      have c8 := icc_nlt (m := (Int32.toInt (g0 10 5))) (n := (Int32.toInt p1)) rfl rfl c8
      refine Ex.ite (fun c9 => ?_) (fun c9 => ?_)
      ·
        have c9 := icc_lt (m := (Int32.toInt p1)) (n := 12) rfl (by decide) c9
        refine Ex.cb (sX2_isIn fu hfu (g0 10 7) p1 g0 L0 hI) (fun x10 g11 L12 hq14 => ?_)
        obtain ⟨hI, kk0, rb_⟩ := hq14
        have b15 : 0 ≤ (Int32.toInt x10) ∧ (Int32.toInt x10) ≤ 1 := rb_
        have hI : zI XT g11 := hI
        have k0_0 : g11 0 13 = g0 0 13 := kk0.trans k0_0
        refine Ex.ite (fun c16 => ?_) (fun c16 => ?_)
        ·
          have c16 := icc_eq (m := (Int32.toInt x10)) (n := 0) rfl (by decide) c16
          generalize z17q : (p1 + 1) = z17
          have e18 : (Int32.toInt z17) = (Int32.toInt p1) + 1 := by rw [← z17q]; exact ic_addc rfl (by decide) (by omega) (by omega)
          refine Ex.cb (sX2_tryFrom_10_L11 fu hfu z17 p2 g11 L12 hI (by omega)) (fun x19 g20 L21 hq23 => ?_)
          obtain ⟨hI, kk0⟩ := hq23
          have hI : zI XT g20 := hI
          have k0_0 : g20 0 13 = g0 0 13 := kk0.trans k0_0
          exact J89 g20 L21 hI k0_0
        ·
          have c16 := icc_neq (m := (Int32.toInt x10)) (n := 0) rfl (by decide) c16
          refine Ex.cb (sX2_isIn fu hfu (g11 10 4) p1 g11 L12 hI) (fun x24 g25 L26 hq28 => ?_)
          obtain ⟨hI, kk0, rb_⟩ := hq28
          have b29 : 0 ≤ (Int32.toInt x24) ∧ (Int32.toInt x24) ≤ 1 := rb_
          have hI : zI XT g25 := hI
          have k0_0 : g25 0 13 = g0 0 13 := kk0.trans k0_0
          refine Ex.ite (fun c30 => ?_) (fun c30 => ?_)
          ·
            have c30 := icc_eq (m := (Int32.toInt x24)) (n := 0) rfl (by decide) c30
            refine Ex.cb (sX1_runOne_8 fu hfu p1 g25 L26 hI (by omega)) (fun x31 g32 L33 hq35 => ?_)
            obtain ⟨hI, kk0⟩ := hq35
            have hI : zI XT g32 := hI
            have k0_0 : g32 0 13 = g0 0 13 := kk0.trans k0_0
            generalize z36q : (p1 + 1) = z36
            have e37 : (Int32.toInt z36) = (Int32.toInt p1) + 1 := by rw [← z36q]; exact ic_addc rfl (by decide) (by omega) (by omega)
            refine Ex.cb (sX2_tryFrom_10_L11 fu hfu z36 p2 g32 L33 hI (by omega)) (fun x38 g39 L40 hq42 => ?_)
            obtain ⟨hI, kk0⟩ := hq42
            have hI : zI XT g39 := hI
            have k0_0 : g39 0 13 = g0 0 13 := kk0.trans k0_0
            exact J89 g39 L40 hI k0_0
          ·
            have c30 := icc_neq (m := (Int32.toInt x24)) (n := 0) rfl (by decide) c30
            refine Ex.cb (sX2_tryGapsOf_10_L12 fu hfu p1 p2 g25 L26 hI (by omega)) (fun x43 g44 L45 hq47 => ?_)
            obtain ⟨hI, kk0⟩ := hq47
            have hI : zI XT g44 := hI
            have k0_0 : g44 0 13 = g0 0 13 := kk0.trans k0_0
            exact J89 g44 L45 hI k0_0
      ·
        have c9 := icc_nlt (m := (Int32.toInt p1)) (n := 12) rfl (by decide) c9
        omega
  ·
    have c1 := icc_nlt (m := (Int32.toInt p2)) (n := (Int32.toInt (g0 10 8))) rfl rfl c1
    exact Ex.ret ⟨hI, k0_0⟩
set_option maxHeartbeats 4000000 in
set_option maxRecDepth 100000 in
theorem sX2_tryGapsOf_10_L13 (fu : Nat) (hfu : 1180591620717411303424 ≤ fu) (p1 : Int32) (p2 : Int32) (g0 : Nat → Nat → Int32) (L0 : Nat → Nat → Int64) (hI : zI XT g0) (hp1 : (0 ≤ (Int32.toInt p1) ∧ (Int32.toInt p1) ≤ 11)) : Ex (fX2_tryGapsOf_10 fu (fX2_tryFrom_10 fu 12) p1 p2 g0 L0) (fun (r : Unit) (g1 : Nat → Nat → Int32) (L1 : Nat → Nat → Int64) => zI XT g1 ∧ g1 0 13 = g0 0 13) := by
  have k0_0 : g0 0 13 = g0 0 13 := rfl
  unfold fX2_tryGapsOf_10
  have lp5 : ∀ (v1 : Int32) (v2 : Int32) (v3 : Int32) (v4 : Int32) (g : Nat → Nat → Int32) (L : Nat → Nat → Int64), (0 ≤ (Int32.toInt v1) ∧ (Int32.toInt v1) ≤ 11) → (0 ≤ (Int32.toInt v4) ∧ (Int32.toInt v4) ≤ 5) → zI XT g → g 0 13 = g0 0 13 → Ex (fX2_tryGapsOf_10_l5 fu (fX2_tryFrom_10 fu 12) v1 v2 v3 v4 g L) (fun (r : Unit) (g1 : Nat → Nat → Int32) (L1 : Nat → Nat → Int64) => zI XT g1 ∧ g1 0 13 = g0 0 13) := by
    intro v1 v2 v3 v4 g L hb_v1 hb_v4 hI k0_0
    unfold fX2_tryGapsOf_10_l5
    refine Ex.loop (fun v => ((0 ≤ (Int32.toInt v1) ∧ (Int32.toInt v1) ≤ 11)) ∧ ((0 ≤ (Int32.toInt (v.2.1)) ∧ (Int32.toInt (v.2.1)) ≤ 5)) ∧ (zI XT (v.2.2.1)) ∧ ((v.2.2.1) 0 13 = g0 0 13)) (fun v => 6 - (Int32.toInt (v.2.1))) (by omega) (by show 6 - (Int32.toInt v4) < (fu : Int); omega) ⟨hb_v1, hb_v4, hI, k0_0⟩ (fun k5 v hv ih5 => ?_)
    obtain ⟨v3, v4, g, L⟩ := v
    obtain ⟨hb_v1, hb_v4, hI, k0_0⟩ := hv
    have hb_v1 : (0 ≤ (Int32.toInt v1) ∧ (Int32.toInt v1) ≤ 11) := hb_v1
    have hb_v4 : (0 ≤ (Int32.toInt v4) ∧ (Int32.toInt v4) ≤ 5) := hb_v4
    have hI : zI XT g := hI
    have k0_0 : g 0 13 = g0 0 13 := k0_0
    have ih5 : ∀ v' : Int32 × Int32 × (Nat → Nat → Int32) × (Nat → Nat → Int64), (((0 ≤ (Int32.toInt v1) ∧ (Int32.toInt v1) ≤ 11)) ∧ ((0 ≤ (Int32.toInt (v'.2.1)) ∧ (Int32.toInt (v'.2.1)) ≤ 5)) ∧ (zI XT (v'.2.2.1)) ∧ ((v'.2.2.1) 0 13 = g0 0 13)) → 6 - (Int32.toInt (v'.2.1)) < 6 - (Int32.toInt v4) → 0 < 6 - (Int32.toInt v4) → Ex (k5 v') (fun (r : Unit) (g1 : Nat → Nat → Int32) (L1 : Nat → Nat → Int64) => zI XT g1 ∧ g1 0 13 = g0 0 13) := ih5
    show Ex (fX2_tryGapsOf_10_s5 fu (fX2_tryFrom_10 fu 12) v1 v2 k5 v3 v4 g L) (fun (r : Unit) (g1 : Nat → Nat → Int32) (L1 : Nat → Nat → Int64) => zI XT g1 ∧ g1 0 13 = g0 0 13)
    unfold fX2_tryGapsOf_10_s5
    refine Ex.ite (fun c1 => ?_) (fun c1 => ?_)
    ·
      have c1 := icc_lt (m := 4) (n := (Int32.toInt v4)) (by decide) rfl c1
      exact Ex.ret ⟨hI, k0_0⟩
    ·
      have c1 := icc_nlt (m := 4) (n := (Int32.toInt v4)) (by decide) rfl c1
      refine Ex.ck (by omega) (by omega) ?_
      refine Ex.sti (hI.updN rfl) (fun g2 g2e hI => ?_)
      have k0_0 : g2 0 13 = g0 0 13 := by rw [g2e]; exact k0_0
      refine Ex.cb (sX1_runOne_8 fu hfu v1 g2 L hI (by omega)) (fun x3 g4 L5 hq7 => ?_)
      obtain ⟨hI, kk0⟩ := hq7
      have hI : zI XT g4 := hI
      have k0_0 : g4 0 13 = g0 0 13 := kk0.trans k0_0
      refine Ex.ck (by omega) (by omega) ?_
      have J64 : ∀ (v3 : Int32) (g : Nat → Nat → Int32) (L : Nat → Nat → Int64), (0 ≤ (Int32.toInt v1) ∧ (Int32.toInt v1) ≤ 11) → (0 ≤ (Int32.toInt v4) ∧ (Int32.toInt v4) ≤ 4) → zI XT g → g 0 13 = g0 0 13 → Ex (fX2_tryGapsOf_10_p64 fu (fX2_tryFrom_10 fu 12) k5 v1 v2 v3 v4 g L) (fun (r : Unit) (g1 : Nat → Nat → Int32) (L1 : Nat → Nat → Int64) => zI XT g1 ∧ g1 0 13 = g0 0 13) := by
        intro v3 g L hb_v1 hb_v4 hI k0_0
        unfold fX2_tryGapsOf_10_p64
        generalize z8q : (v4 + 1) = z8
        have e9 : (Int32.toInt z8) = (Int32.toInt v4) + 1 := by rw [← z8q]; exact ic_addc rfl (by decide) (by omega) (by omega)
        exact ih5 (v3, z8, g, L) ⟨(show (0 ≤ (Int32.toInt v1) ∧ (Int32.toInt v1) ≤ 11) from by omega), (show (0 ≤ (Int32.toInt z8) ∧ (Int32.toInt z8) ≤ 5) from by omega), hI, k0_0⟩ (by show 6 - (Int32.toInt z8) < _; omega) (by omega)
      refine Ex.ite (fun c10 => ?_) (fun c10 => ?_)
      ·
        have c10 := icc_eq (m := (Int32.toInt (g4 44 (Int32.toNatClampNeg v1)))) (n := (Int32.toInt v3)) rfl rfl c10
        exact J64 v3 g4 L5 (by omega) (by omega) hI k0_0
      ·
        have c10 := icc_neq (m := (Int32.toInt (g4 44 (Int32.toNatClampNeg v1)))) (n := (Int32.toInt v3)) rfl rfl c10
        refine Ex.ck (by omega) (by omega) ?_
        refine Ex.lti (fun x11 x11e x11i => ?_)
        generalize z12q : (v1 + 1) = z12
        have e13 : (Int32.toInt z12) = (Int32.toInt v1) + 1 := by rw [← z12q]; exact ic_addc rfl (by decide) (by omega) (by omega)
        generalize z14q : (v2 + v4) = z14
        refine Ex.cb (sX2_tryFrom_10_L12 fu hfu z12 z14 g4 L5 hI (by omega)) (fun x15 g16 L17 hq19 => ?_)
        obtain ⟨hI, kk0⟩ := hq19
        have hI : zI XT g16 := hI
        have k0_0 : g16 0 13 = g0 0 13 := kk0.trans k0_0
        exact J64 x11 g16 L17 (by omega) (by omega) hI k0_0
  exact lp5 p1 p2 (-1) 0 g0 L0 (by omega) (by decide) hI k0_0
set_option maxHeartbeats 4000000 in
set_option maxRecDepth 100000 in
theorem sX2_tryFrom_10_L13 (fu : Nat) (hfu : 1180591620717411303424 ≤ fu) (p1 : Int32) (p2 : Int32) (g0 : Nat → Nat → Int32) (L0 : Nat → Nat → Int64) (hI : zI XT g0) (hp1 : (0 ≤ (Int32.toInt p1) ∧ (Int32.toInt p1) ≤ 12)) : Ex (fX2_tryFrom_10 fu 13 p1 p2 g0 L0) (fun (r : Unit) (g1 : Nat → Nat → Int32) (L1 : Nat → Nat → Int64) => zI XT g1 ∧ g1 0 13 = g0 0 13) := by
  have k0_0 : g0 0 13 = g0 0 13 := rfl
  rw [fX2_tryFrom_10_succ]
  unfold fX2_tryFrom_10B
  refine Ex.ite (fun c1 => ?_) (fun c1 => ?_)
  ·
    have c1 := icc_lt (m := (Int32.toInt p2)) (n := (Int32.toInt (g0 10 8))) rfl rfl c1
    have b2 : 0 ≤ (Int32.toInt (g0 10 5)) ∧ (Int32.toInt (g0 10 5)) ≤ 11 := hI 10 5 0 11 rfl
    have J89 : ∀ (g : Nat → Nat → Int32) (L : Nat → Nat → Int64), zI XT g → g 0 13 = g0 0 13 → Ex (fX2_tryFrom_10_p89 fu (fX2_tryFrom_10 fu 12) g L) (fun (r : Unit) (g1 : Nat → Nat → Int32) (L1 : Nat → Nat → Int64) => zI XT g1 ∧ g1 0 13 = g0 0 13) := by
      intro g L hI k0_0
      unfold fX2_tryFrom_10_p89
      exact Ex.ret ⟨hI, k0_0⟩
    have J23 : ∀ (v2 : Int32) (g : Nat → Nat → Int32) (L : Nat → Nat → Int64), zI XT g → g 0 13 = g0 0 13 → Ex (fX2_tryFrom_10_p23 fu (fX2_tryFrom_10 fu 12) v2 g L) (fun (r : Unit) (g1 : Nat → Nat → Int32) (L1 : Nat → Nat → Int64) => zI XT g1 ∧ g1 0 13 = g0 0 13) := by
      intro v2 g L hI k0_0
      unfold fX2_tryFrom_10_p23
      refine Ex.cb (sX2_takeIfOnTime_10 fu hfu v2 g L hI) (fun x3 g4 L5 hq7 => ?_)
      obtain ⟨hI, kk0⟩ := hq7
      have hI : zI XT g4 := hI
      have k0_0 : g4 0 13 = g0 0 13 := kk0.trans k0_0
      exact J89 g4 L5 hI k0_0
    refine Ex.ite (fun c8 => ?_) (fun c8 => ?_)
    ·
      have c8 := icc_lt (m := (Int32.toInt (g0 10 5))) (n := (Int32.toInt p1)) rfl rfl c8
      exact J23 p2 g0 L0 hI k0_0
    ·
      have c8 := icc_nlt (m := (Int32.toInt (g0 10 5))) (n := (Int32.toInt p1)) rfl rfl c8
      refine Ex.ite (fun c9 => ?_) (fun c9 => ?_)
      ·
        have c9 := icc_lt (m := (Int32.toInt p1)) (n := 12) rfl (by decide) c9
        refine Ex.cb (sX2_isIn fu hfu (g0 10 7) p1 g0 L0 hI) (fun x10 g11 L12 hq14 => ?_)
        obtain ⟨hI, kk0, rb_⟩ := hq14
        have b15 : 0 ≤ (Int32.toInt x10) ∧ (Int32.toInt x10) ≤ 1 := rb_
        have hI : zI XT g11 := hI
        have k0_0 : g11 0 13 = g0 0 13 := kk0.trans k0_0
        refine Ex.ite (fun c16 => ?_) (fun c16 => ?_)
        ·
          have c16 := icc_eq (m := (Int32.toInt x10)) (n := 0) rfl (by decide) c16
          generalize z17q : (p1 + 1) = z17
          have e18 : (Int32.toInt z17) = (Int32.toInt p1) + 1 := by rw [← z17q]; exact ic_addc rfl (by decide) (by omega) (by omega)
          refine Ex.cb (sX2_tryFrom_10_L12 fu hfu z17 p2 g11 L12 hI (by omega)) (fun x19 g20 L21 hq23 => ?_)
          obtain ⟨hI, kk0⟩ := hq23
          have hI : zI XT g20 := hI
          have k0_0 : g20 0 13 = g0 0 13 := kk0.trans k0_0
          exact J89 g20 L21 hI k0_0
        ·
          have c16 := icc_neq (m := (Int32.toInt x10)) (n := 0) rfl (by decide) c16
          refine Ex.cb (sX2_isIn fu hfu (g11 10 4) p1 g11 L12 hI) (fun x24 g25 L26 hq28 => ?_)
          obtain ⟨hI, kk0, rb_⟩ := hq28
          have b29 : 0 ≤ (Int32.toInt x24) ∧ (Int32.toInt x24) ≤ 1 := rb_
          have hI : zI XT g25 := hI
          have k0_0 : g25 0 13 = g0 0 13 := kk0.trans k0_0
          refine Ex.ite (fun c30 => ?_) (fun c30 => ?_)
          ·
            have c30 := icc_eq (m := (Int32.toInt x24)) (n := 0) rfl (by decide) c30
            refine Ex.cb (sX1_runOne_8 fu hfu p1 g25 L26 hI (by omega)) (fun x31 g32 L33 hq35 => ?_)
            obtain ⟨hI, kk0⟩ := hq35
            have hI : zI XT g32 := hI
            have k0_0 : g32 0 13 = g0 0 13 := kk0.trans k0_0
            generalize z36q : (p1 + 1) = z36
            have e37 : (Int32.toInt z36) = (Int32.toInt p1) + 1 := by rw [← z36q]; exact ic_addc rfl (by decide) (by omega) (by omega)
            refine Ex.cb (sX2_tryFrom_10_L12 fu hfu z36 p2 g32 L33 hI (by omega)) (fun x38 g39 L40 hq42 => ?_)
            obtain ⟨hI, kk0⟩ := hq42
            have hI : zI XT g39 := hI
            have k0_0 : g39 0 13 = g0 0 13 := kk0.trans k0_0
            exact J89 g39 L40 hI k0_0
          ·
            have c30 := icc_neq (m := (Int32.toInt x24)) (n := 0) rfl (by decide) c30
            refine Ex.cb (sX2_tryGapsOf_10_L13 fu hfu p1 p2 g25 L26 hI (by omega)) (fun x43 g44 L45 hq47 => ?_)
            obtain ⟨hI, kk0⟩ := hq47
            have hI : zI XT g44 := hI
            have k0_0 : g44 0 13 = g0 0 13 := kk0.trans k0_0
            exact J89 g44 L45 hI k0_0
      ·
        have c9 := icc_nlt (m := (Int32.toInt p1)) (n := 12) rfl (by decide) c9
        omega
  ·
    have c1 := icc_nlt (m := (Int32.toInt p2)) (n := (Int32.toInt (g0 10 8))) rfl rfl c1
    exact Ex.ret ⟨hI, k0_0⟩
set_option maxHeartbeats 4000000 in
set_option maxRecDepth 100000 in
theorem sX2_fewest_10 (fu : Nat) (hfu : 1180591620717411303424 ≤ fu) (p1 : Int32) (p2 : Int32) (p3 : Int32) (g0 : Nat → Nat → Int32) (L0 : Nat → Nat → Int64) (hI : zI XT g0) (hp2 : (0 ≤ (Int32.toInt p2) ∧ (Int32.toInt p2) ≤ 11)) : Ex (fX2_fewest_10 fu p1 p2 p3 g0 L0) (fun (r : Int32) (g1 : Nat → Nat → Int32) (L1 : Nat → Nat → Int64) => zI XT g1 ∧ g1 0 13 = g0 0 13) := by
  have k0_0 : g0 0 13 = g0 0 13 := rfl
  unfold fX2_fewest_10
  refine Ex.sti (hI.updN rfl) (fun g1 g1e hI => ?_)
  have k0_0 : g1 0 13 = g0 0 13 := by rw [g1e]; exact k0_0
  refine Ex.sti (hI.updN rfl) (fun g2 g2e hI => ?_)
  have k0_0 : g2 0 13 = g0 0 13 := by rw [g2e]; exact k0_0
  refine Ex.sti (hI.upd rfl (by omega) (by omega)) (fun g3 g3e hI => ?_)
  have k0_0 : g3 0 13 = g0 0 13 := by rw [g3e]; exact k0_0
  refine Ex.sti (hI.updN rfl) (fun g4 g4e hI => ?_)
  have k0_0 : g4 0 13 = g0 0 13 := by rw [g4e]; exact k0_0
  refine Ex.cb (sX2_findAsked_10 fu hfu g4 L0 hI) (fun x5 g6 L7 hq9 => ?_)
  obtain ⟨hI, kk0⟩ := hq9
  have hI : zI XT g6 := hI
  have k0_0 : g6 0 13 = g0 0 13 := kk0.trans k0_0
  refine Ex.stA (hI.cpy (fun _ _ => rfl)) (fun g10 g10e hI => ?_)
  have k0_0 : g10 0 13 = g0 0 13 := by rw [g10e]; exact k0_0
  have lp46 : ∀ (v1 : Int32) (v4 : Int32) (g : Nat → Nat → Int32) (L : Nat → Nat → Int64), (0 ≤ (Int32.toInt v4) ∧ (Int32.toInt v4) ≤ 12) → zI XT g → g 0 13 = g0 0 13 → Ex (fX2_fewest_10_l46 fu v1 v4 g L) (fun (r : Int32) (g1 : Nat → Nat → Int32) (L1 : Nat → Nat → Int64) => zI XT g1 ∧ g1 0 13 = g0 0 13) := by
    intro v1 v4 g L hb_v4 hI k0_0
    unfold fX2_fewest_10_l46
    refine Ex.loop (fun v => ((0 ≤ (Int32.toInt (v.1)) ∧ (Int32.toInt (v.1)) ≤ 12)) ∧ (zI XT (v.2.1)) ∧ ((v.2.1) 0 13 = g0 0 13)) (fun v => 13 - (Int32.toInt (v.1))) (by omega) (by show 13 - (Int32.toInt v4) < (fu : Int); omega) ⟨hb_v4, hI, k0_0⟩ (fun k46 v hv ih46 => ?_)
    obtain ⟨v4, g, L⟩ := v
    obtain ⟨hb_v4, hI, k0_0⟩ := hv
    have hb_v4 : (0 ≤ (Int32.toInt v4) ∧ (Int32.toInt v4) ≤ 12) := hb_v4
    have hI : zI XT g := hI
    have k0_0 : g 0 13 = g0 0 13 := k0_0
    have ih46 : ∀ v' : Int32 × (Nat → Nat → Int32) × (Nat → Nat → Int64), (((0 ≤ (Int32.toInt (v'.1)) ∧ (Int32.toInt (v'.1)) ≤ 12)) ∧ (zI XT (v'.2.1)) ∧ ((v'.2.1) 0 13 = g0 0 13)) → 13 - (Int32.toInt (v'.1)) < 13 - (Int32.toInt v4) → 0 < 13 - (Int32.toInt v4) → Ex (k46 v') (fun (r : Int32) (g1 : Nat → Nat → Int32) (L1 : Nat → Nat → Int64) => zI XT g1 ∧ g1 0 13 = g0 0 13) := ih46
    show Ex (fX2_fewest_10_s46 fu v1 k46 v4 g L) (fun (r : Int32) (g1 : Nat → Nat → Int32) (L1 : Nat → Nat → Int64) => zI XT g1 ∧ g1 0 13 = g0 0 13)
    unfold fX2_fewest_10_s46
    refine Ex.ite (fun c11 => ?_) (fun c11 => ?_)
    ·
      have c11 := icc_le (m := 12) (n := (Int32.toInt v4)) (by decide) rfl c11
      refine Ex.cb (sX2_tryFrom_10_L13 fu hfu 0 0 g L hI (by decide)) (fun x12 g13 L14 hq16 => ?_)
      obtain ⟨hI, kk0⟩ := hq16
      have hI : zI XT g13 := hI
      have k0_0 : g13 0 13 = g0 0 13 := kk0.trans k0_0
      refine Ex.stA (hI.cpy (fun _ _ => rfl)) (fun g17 g17e hI => ?_)
      have k0_0 : g17 0 13 = g0 0 13 := by rw [g17e]; exact k0_0
      have J130 : ∀ (t0 : Int32) (g : Nat → Nat → Int32) (L : Nat → Nat → Int64), zI XT g → g 0 13 = g0 0 13 → Ex (fX2_fewest_10_p130 fu t0 g L) (fun (r : Int32) (g1 : Nat → Nat → Int32) (L1 : Nat → Nat → Int64) => zI XT g1 ∧ g1 0 13 = g0 0 13) := by
        intro t0 g L hI k0_0
        unfold fX2_fewest_10_p130
        exact Ex.ret ⟨hI, k0_0⟩
      refine Ex.ite (fun c18 => ?_) (fun c18 => ?_)
      ·
        have c18 := icc_eq (m := (Int32.toInt (g17 10 8))) (n := 21) rfl (by decide) c18
        exact J130 (-1) g17 L14 hI k0_0
      ·
        have c18 := icc_neq (m := (Int32.toInt (g17 10 8))) (n := 21) rfl (by decide) c18
        exact J130 (g17 10 8) g17 L14 hI k0_0
    ·
      have c11 := icc_nle (m := 12) (n := (Int32.toInt v4)) (by decide) rfl c11
      refine Ex.cb (sX2_isIn fu hfu v1 v4 g L hI) (fun x19 g20 L21 hq23 => ?_)
      obtain ⟨hI, kk0, rb_⟩ := hq23
      have b24 : 0 ≤ (Int32.toInt x19) ∧ (Int32.toInt x19) ≤ 1 := rb_
      have hI : zI XT g20 := hI
      have k0_0 : g20 0 13 = g0 0 13 := kk0.trans k0_0
      have J82 : ∀ (t0 : Int32) (t1 : Int32) (g : Nat → Nat → Int32) (L : Nat → Nat → Int64), (0 ≤ (Int32.toInt v4) ∧ (Int32.toInt v4) ≤ 11) → (0 ≤ (Int32.toInt t1) ∧ (Int32.toInt t1) ≤ 11) → zI XT g → g 0 13 = g0 0 13 → Ex (fX2_fewest_10_p82 fu k46 v1 v4 t0 t1 g L) (fun (r : Int32) (g1 : Nat → Nat → Int32) (L1 : Nat → Nat → Int64) => zI XT g1 ∧ g1 0 13 = g0 0 13) := by
        intro t0 t1 g L hb_v4 hb_t1 hI k0_0
        unfold fX2_fewest_10_p82
        refine Ex.ck (by omega) (by omega) ?_
        refine Ex.sti (hI.updN rfl) (fun g25 g25e hI => ?_)
        have k0_0 : g25 0 13 = g0 0 13 := by rw [g25e]; exact k0_0
        generalize z26q : (v4 + 1) = z26
        have e27 : (Int32.toInt z26) = (Int32.toInt v4) + 1 := by rw [← z26q]; exact ic_addc rfl (by decide) (by omega) (by omega)
        exact ih46 (z26, g25, L) ⟨(show (0 ≤ (Int32.toInt z26) ∧ (Int32.toInt z26) ≤ 12) from by omega), hI, k0_0⟩ (by show 13 - (Int32.toInt z26) < _; omega) (by omega)
      refine Ex.ite (fun c28 => ?_) (fun c28 => ?_)
      ·
        have c28 := icc_eq (m := (Int32.toInt x19)) (n := 0) rfl (by decide) c28
        refine Ex.ck (by omega) (by omega) ?_
        exact J82 (g20 50 (Int32.toNatClampNeg v4)) v4 g20 L21 (by omega) (by omega) hI k0_0
      ·
        have c28 := icc_neq (m := (Int32.toInt x19)) (n := 0) rfl (by decide) c28
        exact J82 0 v4 g20 L21 (by omega) (by omega) hI k0_0
  exact lp46 p1 0 g10 L7 (by decide) hI k0_0
