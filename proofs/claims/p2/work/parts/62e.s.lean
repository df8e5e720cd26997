set_option maxHeartbeats 4000000 in
set_option maxRecDepth 100000 in
theorem sX1_overrun_8_les (fu : Nat) (hfu : 1099511627776 ≤ fu) (p1 : Int32) (q1_ : Nat) (g0 : Nat → Nat → Int32) (L0 : Nat → Nat → Int64) (hI : zI XT g0) (hp1 : (0 ≤ (Int32.toInt p1) ∧ (Int32.toInt p1) ≤ 11)) (q1_l : 57 ≤ q1_) (q1_h : q1_ < 81) : Ex (fX1_overrun_8_les fu p1 q1_ g0 L0) (fun (r : Int32) (g1 : Nat → Nat → Int32) (L1 : Nat → Nat → Int64) => zI XT g1 ∧ g1 0 13 = g0 0 13 ∧ (0 ≤ (Int32.toInt r) ∧ (Int32.toInt r) ≤ 180)) := by
  have k0_0 : g0 0 13 = g0 0 13 := rfl
  unfold fX1_overrun_8_les
  generalize z1q : (((g0 8 8) : Int32) >>> ((p1 : Int32) &&& 31) : Int32) = z1
  generalize z2q : (z1 &&& 1) = z2
  have b3 : 0 ≤ (Int32.toInt z2) ∧ (Int32.toInt z2) ≤ 1 := by rw [← z2q]; exact ic_and1 _
  refine Ex.ite (fun c4 => ?_) (fun c4 => ?_)
  ·
    have c4 := icc_eq (m := (Int32.toInt z2)) (n := 0) rfl (by decide) c4
    exact Ex.ret ⟨hI, k0_0, (by decide)⟩
  ·
    have c4 := icc_neq (m := (Int32.toInt z2)) (n := 0) rfl (by decide) c4
    have J29 : ∀ (v1 : Int32) (q2_ : Nat) (t0 : Int32) (g : Nat → Nat → Int32) (L : Nat → Nat → Int64), (0 ≤ (Int32.toInt v1) ∧ (Int32.toInt v1) ≤ 11) → 57 ≤ q2_ → q2_ < 81 → (60 ≤ (Int32.toInt t0) ∧ (Int32.toInt t0) ≤ 180) → zI XT g → g 0 13 = g0 0 13 → Ex (fX1_overrun_8_les_p29 fu v1 q2_ t0 g L) (fun (r : Int32) (g1 : Nat → Nat → Int32) (L1 : Nat → Nat → Int64) => zI XT g1 ∧ g1 0 13 = g0 0 13 ∧ (0 ≤ (Int32.toInt r) ∧ (Int32.toInt r) ≤ 180)) := by
      intro v1 q2_ t0 g L hb_v1 q2_l q2_h hb_t0 hI k0_0
      unfold fX1_overrun_8_les_p29
      refine Ex.ck (by omega) (by omega) ?_
      refine Ex.lti (fun x5 x5e x5i => ?_)
      have J151 : ∀ (v3 : Int32) (v4 : Int32) (g : Nat → Nat → Int32) (L : Nat → Nat → Int64), (60 ≤ (Int32.toInt v3) ∧ (Int32.toInt v3) ≤ 180) → zI XT g → g 0 13 = g0 0 13 → Ex (fX1_overrun_8_les_p151 fu v3 v4 g L) (fun (r : Int32) (g1 : Nat → Nat → Int32) (L1 : Nat → Nat → Int64) => zI XT g1 ∧ g1 0 13 = g0 0 13 ∧ (0 ≤ (Int32.toInt r) ∧ (Int32.toInt r) ≤ 180)) := by
        intro v3 v4 g L hb_v3 hI k0_0
        unfold fX1_overrun_8_les_p151
        generalize z6q : (if v4 < v3 then v4 else v3) = z6
        have b7 := ic_min (x := v3) (y := v4) (m := (Int32.toInt v3)) (n := (Int32.toInt v4)) rfl rfl
        rw [z6q] at b7
        generalize z8q : (if 0 < z6 then z6 else 0) = z8
        have b9 := ic_max (x := 0) (y := z6) (m := 0) (n := (Int32.toInt z6)) (by decide) rfl
        rw [z8q] at b9
        exact Ex.ret ⟨hI, k0_0, (by omega)⟩
      refine Ex.ite (fun c10 => ?_) (fun c10 => ?_)
      ·
        have c10 := icc_eq (m := (Int32.toInt (g 6 11))) (n := (-1)) rfl (by decide) c10
        exact J151 t0 x5 g L (by omega) hI k0_0
      ·
        have c10 := icc_neq (m := (Int32.toInt (g 6 11))) (n := (-1)) rfl (by decide) c10
        refine Ex.ck (by omega) (by omega) ?_
        refine Ex.ck (by decide) (by decide) ?_
        refine Ex.sti (hI.updN rfl) (fun g11 g11e hI => ?_)
        have k0_0 : g11 0 13 = g0 0 13 := by rw [g11e]; exact k0_0
        refine Ex.ck (by omega) (by omega) ?_
        generalize z12q : ((g11 43 (Int32.toNatClampNeg v1)) - (g11 q2_ 3)) = z12
        refine Ex.ck (by decide) (by decide) ?_
        refine Ex.sti (hI.updN rfl) (fun g13 g13e hI => ?_)
        have k0_0 : g13 0 13 = g0 0 13 := by rw [g13e]; exact k0_0
        refine Ex.ck (by omega) (by omega) ?_
        refine Ex.ck (by decide) (by decide) ?_
        refine Ex.sti (hI.updN rfl) (fun g14 g14e hI => ?_)
        have k0_0 : g14 0 13 = g0 0 13 := by rw [g14e]; exact k0_0
        refine Ex.ck (by omega) (by omega) ?_
        refine Ex.ck (by decide) (by decide) ?_
        refine Ex.sti (hI.updN rfl) (fun g15 g15e hI => ?_)
        have k0_0 : g15 0 13 = g0 0 13 := by rw [g15e]; exact k0_0
        refine Ex.ck (by decide) (by decide) ?_
        refine Ex.sti (hI.updN rfl) (fun g16 g16e hI => ?_)
        have k0_0 : g16 0 13 = g0 0 13 := by rw [g16e]; exact k0_0
        refine Ex.ck (by decide) (by decide) ?_
        refine Ex.sti (hI.updN rfl) (fun g17 g17e hI => ?_)
        have k0_0 : g17 0 13 = g0 0 13 := by rw [g17e]; exact k0_0
        refine Ex.cb (sX8_value_3_48 fu hfu (g17 6 11) g17 L hI) (fun x18 g19 L20 hq22 => ?_)
        obtain ⟨hI, kk0⟩ := hq22
        have hI : zI XT g19 := hI
        have k0_0 : g19 0 13 = g0 0 13 := kk0.trans k0_0
        exact J151 t0 x18 g19 L20 (by omega) hI k0_0
    refine Ex.ite (fun c23 => ?_) (fun c23 => ?_)
    ·
      have c23 := icc_eq (m := (Int32.toInt p1)) (n := (Int32.toInt (g0 8 9))) rfl rfl c23
      exact J29 p1 q1_ 180 g0 L0 (by omega) (by omega) (by omega) (by decide) hI k0_0
    ·
      have c23 := icc_neq (m := (Int32.toInt p1)) (n := (Int32.toInt (g0 8 9))) rfl rfl c23
      exact J29 p1 q1_ 60 g0 L0 (by omega) (by omega) (by omega) (by decide) hI k0_0
set_option maxHeartbeats 4000000 in
set_option maxRecDepth 100000 in
theorem sX1_runOne_8 (fu : Nat) (hfu : 1099511627776 ≤ fu) (p1 : Int32) (g0 : Nat → Nat → Int32) (L0 : Nat → Nat → Int64) (hI : zI XT g0) (hp1 : (0 ≤ (Int32.toInt p1) ∧ (Int32.toInt p1) ≤ 11)) : Ex (fX1_runOne_8 fu p1 g0 L0) (fun (r : Unit) (g1 : Nat → Nat → Int32) (L1 : Nat → Nat → Int64) => zI XT g1 ∧ g1 0 13 = g0 0 13) := by
  have k0_0 : g0 0 13 = g0 0 13 := rfl
  unfold fX1_runOne_8
  refine Ex.ck (by omega) (by omega) ?_
  refine Ex.ltn (fun q1 q1e => ?_)
  have q1b : 57 ≤ q1 ∧ q1 < 69 := by have := Nat.mod_lt (Int32.toNatClampNeg p1) (show 12 > 0 by decide); omega
  refine Ex.cb (sX1_begin_8_les fu hfu p1 q1 g0 L0 hI (by omega) (by omega) (by omega)) (fun x2 g3 L4 hq6 => ?_)
  obtain ⟨hI, kk0⟩ := hq6
  have hI : zI XT g3 := hI
  have k0_0 : g3 0 13 = g0 0 13 := kk0.trans k0_0
  refine Ex.cb (sX1_overrun_8_les fu hfu p1 q1 g3 L4 hI (by omega) (by omega) (by omega)) (fun x7 g8 L9 hq11 => ?_)
  obtain ⟨hI, kk0, rb_⟩ := hq11
  have b12 : 0 ≤ (Int32.toInt x7) ∧ (Int32.toInt x7) ≤ 180 := rb_
  have hI : zI XT g8 := hI
  have k0_0 : g8 0 13 = g0 0 13 := kk0.trans k0_0
  refine Ex.ck (by omega) (by omega) ?_
  refine Ex.sti (hI.updN rfl) (fun g13 g13e hI => ?_)
  have k0_0 : g13 0 13 = g0 0 13 := by rw [g13e]; exact k0_0
  refine Ex.ck (by omega) (by omega) ?_
  generalize z14q : ((g13 43 (Int32.toNatClampNeg p1)) + (g13 q1 5)) = z14
  generalize z15q : (if (g13 q1 4) < z14 then z14 else (g13 q1 4)) = z15
  have b16 := ic_max (x := (g13 q1 4)) (y := z14) (m := (Int32.toInt (g13 q1 4))) (n := (Int32.toInt z14)) rfl rfl
  rw [z15q] at b16
  refine Ex.ck (by omega) (by omega) ?_
  generalize z17q : (z15 + (g13 45 (Int32.toNatClampNeg p1))) = z17
  refine Ex.ck (by omega) (by omega) ?_
  refine Ex.sti (hI.updN rfl) (fun g18 g18e hI => ?_)
  have k0_0 : g18 0 13 = g0 0 13 := by rw [g18e]; exact k0_0
  exact Ex.ret ⟨hI, k0_0⟩
