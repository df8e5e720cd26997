set_option maxHeartbeats 4000000 in
set_option maxRecDepth 100000 in
theorem sX12_lateness (fu : Nat) (hfu : 1180591620717411303424 ≤ fu) (p1 : Int32) (g0 : Nat → Nat → Int32) (L0 : Nat → Nat → Int64) (hI : zI MT g0) (hJ : mJ g0) : Ex (fX12_lateness fu p1 g0 L0) (fun (r : Int32) (g1 : Nat → Nat → Int32) (L1 : Nat → Nat → Int64) => zI MT g1 ∧ mJ g1 ∧ g1 0 18 = g0 0 18 ∧ g1 0 2 = g0 0 2) := by
  have k0_0 : g0 0 18 = g0 0 18 := rfl
  have k0_1 : g0 0 2 = g0 0 2 := rfl
  unfold fX12_lateness
  refine Ex.cb (sX12_works0 fu hfu g0 L0 hI hJ) (fun x1 g2 L3 hq5 => ?_)
  obtain ⟨hI, hJ, kk0, kk1⟩ := hq5
  have hI : zI MT g2 := hI
  have hJ : mJ g2 := hJ
  have k0_0 : g2 0 18 = g0 0 18 := kk0.trans k0_0
  have k0_1 : g2 0 2 = g0 0 2 := kk1.trans k0_1
  have lp8 : ∀ (v1 : Int32) (v2 : Int32) (v3 : Int32) (g : Nat → Nat → Int32) (L : Nat → Nat → Int64), (0 ≤ (Int32.toInt v3) ∧ (Int32.toInt v3) ≤ 12) → zI MT g → mJ g → g 0 18 = g0 0 18 → g 0 2 = g0 0 2 → Ex (fX12_lateness_l8 fu v1 v2 v3 g L) (fun (r : Int32) (g1 : Nat → Nat → Int32) (L1 : Nat → Nat → Int64) => zI MT g1 ∧ mJ g1 ∧ g1 0 18 = g0 0 18 ∧ g1 0 2 = g0 0 2) := by
    intro v1 v2 v3 g L hb_v3 hI hJ k0_0 k0_1
    unfold fX12_lateness_l8
    refine Ex.loop (fun v => ((0 ≤ (Int32.toInt (v.2.1)) ∧ (Int32.toInt (v.2.1)) ≤ 12)) ∧ (zI MT (v.2.2.1)) ∧ (mJ (v.2.2.1)) ∧ ((v.2.2.1) 0 18 = g0 0 18) ∧ ((v.2.2.1) 0 2 = g0 0 2)) (fun v => 13 - (Int32.toInt (v.2.1))) (by omega) (by show 13 - (Int32.toInt v3) < (fu : Int); omega) ⟨hb_v3, hI, hJ, k0_0, k0_1⟩ (fun k8 v hv ih8 => ?_)
    obtain ⟨v2, v3, g, L⟩ := v
    obtain ⟨hb_v3, hI, hJ, k0_0, k0_1⟩ := hv
    have hb_v3 : (0 ≤ (Int32.toInt v3) ∧ (Int32.toInt v3) ≤ 12) := hb_v3
    have hI : zI MT g := hI
    have hJ : mJ g := hJ
    have k0_0 : g 0 18 = g0 0 18 := k0_0
    have k0_1 : g 0 2 = g0 0 2 := k0_1
    have ih8 : ∀ v' : Int32 × Int32 × (Nat → Nat → Int32) × (Nat → Nat → Int64), (((0 ≤ (Int32.toInt (v'.2.1)) ∧ (Int32.toInt (v'.2.1)) ≤ 12)) ∧ (zI MT (v'.2.2.1)) ∧ (mJ (v'.2.2.1)) ∧ ((v'.2.2.1) 0 18 = g0 0 18) ∧ ((v'.2.2.1) 0 2 = g0 0 2)) → 13 - (Int32.toInt (v'.2.1)) < 13 - (Int32.toInt v3) → 0 < 13 - (Int32.toInt v3) → Ex (k8 v') (fun (r : Int32) (g1 : Nat → Nat → Int32) (L1 : Nat → Nat → Int64) => zI MT g1 ∧ mJ g1 ∧ g1 0 18 = g0 0 18 ∧ g1 0 2 = g0 0 2) := ih8
    show Ex (fX12_lateness_s8 fu v1 k8 v2 v3 g L) (fun (r : Int32) (g1 : Nat → Nat → Int32) (L1 : Nat → Nat → Int64) => zI MT g1 ∧ mJ g1 ∧ g1 0 18 = g0 0 18 ∧ g1 0 2 = g0 0 2)
    unfold fX12_lateness_s8
    have b6 : 0 ≤ (Int32.toInt (g 0 1)) ∧ (Int32.toInt (g 0 1)) ≤ 12 := hI 0 1 0 12 rfl
    refine Ex.ite (fun c7 => ?_) (fun c7 => ?_)
    ·
      have c7 := icc_le (m := (Int32.toInt (g 0 1))) (n := (Int32.toInt v3)) rfl rfl c7
      exact Ex.ret ⟨hI, hJ, k0_0, k0_1⟩
    ·
      have c7 := icc_nle (m := (Int32.toInt (g 0 1))) (n := (Int32.toInt v3)) rfl rfl c7
      have J84 : ∀ (v2 : Int32) (g : Nat → Nat → Int32) (L : Nat → Nat → Int64), (0 ≤ (Int32.toInt v3) ∧ (Int32.toInt v3) ≤ 11) → zI MT g → mJ g → g 0 18 = g0 0 18 → g 0 2 = g0 0 2 → Ex (fX12_lateness_p84 fu k8 v1 v2 v3 g L) (fun (r : Int32) (g1 : Nat → Nat → Int32) (L1 : Nat → Nat → Int64) => zI MT g1 ∧ mJ g1 ∧ g1 0 18 = g0 0 18 ∧ g1 0 2 = g0 0 2) := by
        intro v2 g L hb_v3 hI hJ k0_0 k0_1
        unfold fX12_lateness_p84
        generalize z8q : (v3 + 1) = z8
        have e9 : (Int32.toInt z8) = (Int32.toInt v3) + 1 := by rw [← z8q]; exact ic_addc rfl (by decide) (by omega) (by omega)
        exact ih8 (v2, z8, g, L) ⟨(show (0 ≤ (Int32.toInt z8) ∧ (Int32.toInt z8) ≤ 12) from by omega), hI, hJ, k0_0, k0_1⟩ (by show 13 - (Int32.toInt z8) < _; omega) (by omega)
      refine Ex.ite (fun c10 => ?_) (fun c10 => ?_)
      ·
        have c10 := icc_eq (m := (Int32.toInt v1)) (n := 13) rfl (by decide) c10
        refine Ex.cb (sX12_late fu hfu v3 g L hI hJ (by omega)) (fun x11 g12 L13 hq15 => ?_)
        obtain ⟨hI, hJ, kk0, kk1⟩ := hq15
        have hI : zI MT g12 := hI
        have hJ : mJ g12 := hJ
        have k0_0 : g12 0 18 = g0 0 18 := kk0.trans k0_0
        have k0_1 : g12 0 2 = g0 0 2 := kk1.trans k0_1
        have J40 : ∀ (t0 : Int32) (g : Nat → Nat → Int32) (L : Nat → Nat → Int64), (13 ≤ (Int32.toInt v1) ∧ (Int32.toInt v1) ≤ 13) → (0 ≤ (Int32.toInt v3) ∧ (Int32.toInt v3) ≤ 11) → zI MT g → mJ g → g 0 18 = g0 0 18 → g 0 2 = g0 0 2 → Ex (fX12_lateness_p40 fu k8 v1 v3 t0 g L) (fun (r : Int32) (g1 : Nat → Nat → Int32) (L1 : Nat → Nat → Int64) => zI MT g1 ∧ mJ g1 ∧ g1 0 18 = g0 0 18 ∧ g1 0 2 = g0 0 2) := by
          intro t0 g L hb_v1 hb_v3 hI hJ k0_0 k0_1
          unfold fX12_lateness_p40
          exact J84 t0 g L (by omega) hI hJ k0_0 k0_1
        refine Ex.ite (fun c16 => ?_) (fun c16 => ?_)
        ·
          have c16 := icc_le (m := (Int32.toInt x11)) (n := (Int32.toInt v2)) rfl rfl c16
          exact J40 v2 g12 L13 (by omega) (by omega) hI hJ k0_0 k0_1
        ·
          have c16 := icc_nle (m := (Int32.toInt x11)) (n := (Int32.toInt v2)) rfl rfl c16
          refine Ex.cb (sX12_late fu hfu v3 g12 L13 hI hJ (by omega)) (fun x17 g18 L19 hq21 => ?_)
          obtain ⟨hI, hJ, kk0, kk1⟩ := hq21
          have hI : zI MT g18 := hI
          have hJ : mJ g18 := hJ
          have k0_0 : g18 0 18 = g0 0 18 := kk0.trans k0_0
          have k0_1 : g18 0 2 = g0 0 2 := kk1.trans k0_1
          exact J40 x17 g18 L19 (by omega) (by omega) hI hJ k0_0 k0_1
      ·
        have c10 := icc_neq (m := (Int32.toInt v1)) (n := 13) rfl (by decide) c10
        have J82 : ∀ (t0 : Int32) (t1 : Int32) (g : Nat → Nat → Int32) (L : Nat → Nat → Int64), (0 ≤ (Int32.toInt v3) ∧ (Int32.toInt v3) ≤ 11) → (0 ≤ (Int32.toInt t0) ∧ (Int32.toInt t0) ≤ 1) → zI MT g → mJ g → g 0 18 = g0 0 18 → g 0 2 = g0 0 2 → Ex (fX12_lateness_p82 fu k8 v1 v3 t0 t1 g L) (fun (r : Int32) (g1 : Nat → Nat → Int32) (L1 : Nat → Nat → Int64) => zI MT g1 ∧ mJ g1 ∧ g1 0 18 = g0 0 18 ∧ g1 0 2 = g0 0 2) := by
          intro t0 t1 g L hb_v3 hb_t0 hI hJ k0_0 k0_1
          unfold fX12_lateness_p82
          generalize z22q : (t1 + t0) = z22
          refine Ex.lti (fun x23 x23e x23i => ?_)
          exact J84 x23 g L (by omega) hI hJ k0_0 k0_1
        have J77 : ∀ (t0 : Int32) (g : Nat → Nat → Int32) (L : Nat → Nat → Int64), (0 ≤ (Int32.toInt v3) ∧ (Int32.toInt v3) ≤ 11) → zI MT g → mJ g → g 0 18 = g0 0 18 → g 0 2 = g0 0 2 → Ex (fX12_lateness_p77 fu k8 v1 v3 t0 g L) (fun (r : Int32) (g1 : Nat → Nat → Int32) (L1 : Nat → Nat → Int64) => zI MT g1 ∧ mJ g1 ∧ g1 0 18 = g0 0 18 ∧ g1 0 2 = g0 0 2) := by
          intro t0 g L hb_v3 hI hJ k0_0 k0_1
          unfold fX12_lateness_p77
          exact J82 1 t0 g L (by omega) (by decide) hI hJ k0_0 k0_1
        have J81 : ∀ (t0 : Int32) (g : Nat → Nat → Int32) (L : Nat → Nat → Int64), (0 ≤ (Int32.toInt v3) ∧ (Int32.toInt v3) ≤ 11) → zI MT g → mJ g → g 0 18 = g0 0 18 → g 0 2 = g0 0 2 → Ex (fX12_lateness_p81 fu k8 v1 v3 t0 g L) (fun (r : Int32) (g1 : Nat → Nat → Int32) (L1 : Nat → Nat → Int64) => zI MT g1 ∧ mJ g1 ∧ g1 0 18 = g0 0 18 ∧ g1 0 2 = g0 0 2) := by
          intro t0 g L hb_v3 hI hJ k0_0 k0_1
          unfold fX12_lateness_p81
          exact J82 0 t0 g L (by omega) (by decide) hI hJ k0_0 k0_1
        refine Ex.ite (fun c24 => ?_) (fun c24 => ?_)
        ·
          have c24 := icc_eq (m := (Int32.toInt v1)) (n := 12) rfl (by decide) c24
          refine Ex.cb (sX12_late fu hfu v3 g L hI hJ (by omega)) (fun x25 g26 L27 hq29 => ?_)
          obtain ⟨hI, hJ, kk0, kk1⟩ := hq29
          have hI : zI MT g26 := hI
          have hJ : mJ g26 := hJ
          have k0_0 : g26 0 18 = g0 0 18 := kk0.trans k0_0
          have k0_1 : g26 0 2 = g0 0 2 := kk1.trans k0_1
          refine Ex.ite (fun c30 => ?_) (fun c30 => ?_)
          ·
            have c30 := icc_le (m := (Int32.toInt x25)) (n := 0) rfl (by decide) c30
            exact J81 v2 g26 L27 (by omega) hI hJ k0_0 k0_1
          ·
            have c30 := icc_nle (m := (Int32.toInt x25)) (n := 0) rfl (by decide) c30
            exact J77 v2 g26 L27 (by omega) hI hJ k0_0 k0_1
        ·
          have c24 := icc_neq (m := (Int32.toInt v1)) (n := 12) rfl (by decide) c24
          refine Ex.ck (by omega) (by omega) ?_
          refine Ex.ck (by omega) (by omega) ?_
          refine Ex.ite (fun c31 => ?_) (fun c31 => ?_)
          ·
            have c31 := icc_le (m := (Int32.toInt (g 31 (Int32.toNatClampNeg v3)))) (n := (Int32.toInt (g 1 (Int32.toNatClampNeg v3)))) rfl rfl c31
            exact J81 v2 g L (by omega) hI hJ k0_0 k0_1
          ·
            have c31 := icc_nle (m := (Int32.toInt (g 31 (Int32.toNatClampNeg v3)))) (n := (Int32.toInt (g 1 (Int32.toNatClampNeg v3)))) rfl rfl c31
            exact J77 v2 g L (by omega) hI hJ k0_0 k0_1
  exact lp8 p1 0 0 g2 L3 (by decide) hI hJ k0_0 k0_1
set_option maxHeartbeats 4000000 in
set_option maxRecDepth 100000 in
theorem sX12_count (fu : Nat) (hfu : 1180591620717411303424 ≤ fu) (p1 : Int32) (g0 : Nat → Nat → Int32) (L0 : Nat → Nat → Int64) (hI : zI MT g0) (hJ : mJ g0) : Ex (fX12_count fu p1 g0 L0) (fun (r : Int32) (g1 : Nat → Nat → Int32) (L1 : Nat → Nat → Int64) => zI MT g1 ∧ mJ g1 ∧ g1 0 18 = g0 0 18 ∧ g1 0 2 = g0 0 2) := by
  have k0_0 : g0 0 18 = g0 0 18 := rfl
  have k0_1 : g0 0 2 = g0 0 2 := rfl
  unfold fX12_count
  refine Ex.sti (hI.updN rfl) (fun g1 g1e hI => ?_)
  have k0_0 : g1 0 18 = g0 0 18 := by rw [g1e]; exact k0_0
  have k0_1 : g1 0 2 = g0 0 2 := by rw [g1e]; exact k0_1
  have hJ : mJ g1 := by rw [g1e]; exact mJ.upd hJ rfl
  refine Ex.cb (sX12_within fu hfu p1 0 14 g1 L0 hI hJ) (fun x2 g3 L4 hq6 => ?_)
  obtain ⟨hI, hJ, kk0, kk1, kk2, kk3, kk4, rb_, ip0⟩ := hq6
  have b7 : 0 ≤ (Int32.toInt x2) ∧ (Int32.toInt x2) ≤ 1 := rb_
  have ip8 : (Int32.toInt x2) = 1 → 0 ≤ (Int32.toInt p1) ∧ (Int32.toInt p1) ≤ 14 := ip0
  have hI : zI MT g3 := hI
  have hJ : mJ g3 := hJ
  have k0_0 : g3 0 18 = g0 0 18 := kk3.trans k0_0
  have k0_1 : g3 0 2 = g0 0 2 := kk4.trans k0_1
  refine Ex.cb (sX12_right fu hfu x2 1 g3 L4 hI hJ (by omega) (by decide)) (fun x9 g10 L11 hq13 => ?_)
  obtain ⟨hI, hJ, kk0, kk1, rb_, ip0⟩ := hq13
  have b14 : 0 ≤ (Int32.toInt x9) ∧ (Int32.toInt x9) ≤ 1 := rb_
  have ip15 : (Int32.toInt x9) = 1 → 1 ≤ (Int32.toInt x2) ∧ (Int32.toInt x2) ≤ 1 := ip0
  have hI : zI MT g10 := hI
  have hJ : mJ g10 := hJ
  have k0_0 : g10 0 18 = g0 0 18 := kk0.trans k0_0
  have k0_1 : g10 0 2 = g0 0 2 := kk1.trans k0_1
  refine Ex.ite (fun c16 => ?_) (fun c16 => ?_)
  ·
    have c16 := icc_eq (m := (Int32.toInt x9)) (n := 0) rfl (by decide) c16
    exact Ex.ret ⟨hI, hJ, k0_0, k0_1⟩
  ·
    have c16 := icc_neq (m := (Int32.toInt x9)) (n := 0) rfl (by decide) c16
    refine Ex.ite (fun c17 => ?_) (fun c17 => ?_)
    ·
      have c17 := icc_le (m := (Int32.toInt p1)) (n := 11) rfl (by decide) c17
      refine Ex.ite (fun c18 => ?_) (fun c18 => ?_)
      ·
        have b19 : 0 ≤ (Int32.toInt (g10 0 1)) ∧ (Int32.toInt (g10 0 1)) ≤ 12 := hI 0 1 0 12 rfl
        exact Ex.ret ⟨hI, hJ, k0_0, k0_1⟩
      ·
        refine Ex.ite (fun c20 => ?_) (fun c20 => ?_)
        ·
          have b21 : 0 ≤ (Int32.toInt (g10 0 2)) ∧ (Int32.toInt (g10 0 2)) ≤ 4 := hI 0 2 0 4 rfl
          exact Ex.ret ⟨hI, hJ, k0_0, k0_1⟩
        ·
          refine Ex.ite (fun c22 => ?_) (fun c22 => ?_)
          ·
            have b23 : (-1) ≤ (Int32.toInt (g10 0 52)) ∧ (Int32.toInt (g10 0 52)) ≤ 3 := hI 0 52 (-1) 3 rfl
            exact Ex.ret ⟨hI, hJ, k0_0, k0_1⟩
          ·
            refine Ex.ite (fun c24 => ?_) (fun c24 => ?_)
            ·
              exact Ex.ret ⟨hI, hJ, k0_0, k0_1⟩
            ·
              refine Ex.ite (fun c25 => ?_) (fun c25 => ?_)
              ·
                have b26 : 1 ≤ (Int32.toInt (g10 0 4)) ∧ (Int32.toInt (g10 0 4)) ≤ 99 := hI 0 4 1 99 rfl
                exact Ex.ret ⟨hI, hJ, k0_0, k0_1⟩
              ·
                refine Ex.ite (fun c27 => ?_) (fun c27 => ?_)
                ·
                  have b28 : 0 ≤ (Int32.toInt (g10 0 62)) ∧ (Int32.toInt (g10 0 62)) ≤ 40 := hI 0 62 0 40 rfl
                  exact Ex.ret ⟨hI, hJ, k0_0, k0_1⟩
                ·
                  refine Ex.ite (fun c29 => ?_) (fun c29 => ?_)
                  ·
                    have b30 : 0 ≤ (Int32.toInt (g10 0 73)) ∧ (Int32.toInt (g10 0 73)) ≤ 8 := hI 0 73 0 8 rfl
                    exact Ex.ret ⟨hI, hJ, k0_0, k0_1⟩
                  ·
                    refine Ex.ite (fun c31 => ?_) (fun c31 => ?_)
                    ·
                      refine Ex.cb (sX12_lost fu hfu g10 L11 hI hJ) (fun x32 g33 L34 hq36 => ?_)
                      obtain ⟨hI, hJ, kk0, kk1⟩ := hq36
                      have hI : zI MT g33 := hI
                      have hJ : mJ g33 := hJ
                      have k0_0 : g33 0 18 = g0 0 18 := kk0.trans k0_0
                      have k0_1 : g33 0 2 = g0 0 2 := kk1.trans k0_1
                      exact Ex.ret ⟨hI, hJ, k0_0, k0_1⟩
                    ·
                      refine Ex.ite (fun c37 => ?_) (fun c37 => ?_)
                      ·
                        have b38 : 0 ≤ (Int32.toInt (g10 0 18)) ∧ (Int32.toInt (g10 0 18)) ≤ 700 := hI 0 18 0 700 rfl
                        exact Ex.ret ⟨hI, hJ, k0_0, k0_1⟩
                      ·
                        generalize z39q : (p1 - 9) = z39
                        have e40 : (Int32.toInt z39) = (Int32.toInt p1) - 9 := by rw [← z39q]; exact ic_subc rfl (by decide) (by omega) (by omega)
                        refine Ex.ck (by omega) (by omega) ?_
                        exact Ex.ret ⟨hI, hJ, k0_0, k0_1⟩
    ·
      have c17 := icc_nle (m := (Int32.toInt p1)) (n := 11) rfl (by decide) c17
      refine Ex.cb (sX12_lateness fu hfu p1 g10 L11 hI hJ) (fun x41 g42 L43 hq45 => ?_)
      obtain ⟨hI, hJ, kk0, kk1⟩ := hq45
      have hI : zI MT g42 := hI
      have hJ : mJ g42 := hJ
      have k0_0 : g42 0 18 = g0 0 18 := kk0.trans k0_0
      have k0_1 : g42 0 2 = g0 0 2 := kk1.trans k0_1
      exact Ex.ret ⟨hI, hJ, k0_0, k0_1⟩
set_option maxHeartbeats 4000000 in
set_option maxRecDepth 100000 in
theorem sX12_isLesson (fu : Nat) (hfu : 1180591620717411303424 ≤ fu) (p1 : Int32) (g0 : Nat → Nat → Int32) (L0 : Nat → Nat → Int64) (hI : zI MT g0) (hJ : mJ g0) : Ex (fX12_isLesson fu p1 g0 L0) (fun (r : Int32) (g1 : Nat → Nat → Int32) (L1 : Nat → Nat → Int64) => zI MT g1 ∧ mJ g1 ∧ g1 0 18 = g0 0 18 ∧ g1 0 2 = g0 0 2 ∧ (0 ≤ (Int32.toInt r) ∧ (Int32.toInt r) ≤ 1) ∧ ((Int32.toInt r) = 1 → 0 ≤ (Int32.toInt p1) ∧ (Int32.toInt p1) ≤ 11)) := by
  have k0_0 : g0 0 18 = g0 0 18 := rfl
  have k0_1 : g0 0 2 = g0 0 2 := rfl
  unfold fX12_isLesson
  have J18 : ∀ (t0 : Int32) (g : Nat → Nat → Int32) (L : Nat → Nat → Int64), (0 ≤ (Int32.toInt t0) ∧ (Int32.toInt t0) ≤ 1) → ((Int32.toInt t0) = 1 → 0 ≤ (Int32.toInt p1) ∧ (Int32.toInt p1) ≤ 11) → zI MT g → mJ g → g 0 18 = g0 0 18 → g 0 2 = g0 0 2 → Ex (fX12_isLesson_p18 fu t0 g L) (fun (r : Int32) (g1 : Nat → Nat → Int32) (L1 : Nat → Nat → Int64) => zI MT g1 ∧ mJ g1 ∧ g1 0 18 = g0 0 18 ∧ g1 0 2 = g0 0 2 ∧ (0 ≤ (Int32.toInt r) ∧ (Int32.toInt r) ≤ 1) ∧ ((Int32.toInt r) = 1 → 0 ≤ (Int32.toInt p1) ∧ (Int32.toInt p1) ≤ 11)) := by
    intro t0 g L hb_t0 hn_0 hI hJ k0_0 k0_1
    unfold fX12_isLesson_p18
    refine Ex.cb (sX12_right fu hfu t0 1 g L hI hJ (by omega) (by decide)) (fun x1 g2 L3 hq5 => ?_)
    obtain ⟨hI, hJ, kk0, kk1, rb_, ip0⟩ := hq5
    have b6 : 0 ≤ (Int32.toInt x1) ∧ (Int32.toInt x1) ≤ 1 := rb_
    have ip7 : (Int32.toInt x1) = 1 → 1 ≤ (Int32.toInt t0) ∧ (Int32.toInt t0) ≤ 1 := ip0
    have hI : zI MT g2 := hI
    have hJ : mJ g2 := hJ
    have k0_0 : g2 0 18 = g0 0 18 := kk0.trans k0_0
    have k0_1 : g2 0 2 = g0 0 2 := kk1.trans k0_1
    refine Ex.ckb (z_bool (by omega)) ?_
    exact Ex.ret ⟨hI, hJ, k0_0, k0_1, (by omega), (by intro hr_; omega)⟩
  have J17 : ∀ (g : Nat → Nat → Int32) (L : Nat → Nat → Int64), zI MT g → mJ g → g 0 18 = g0 0 18 → g 0 2 = g0 0 2 → Ex (fX12_isLesson_p17 fu g L) (fun (r : Int32) (g1 : Nat → Nat → Int32) (L1 : Nat → Nat → Int64) => zI MT g1 ∧ mJ g1 ∧ g1 0 18 = g0 0 18 ∧ g1 0 2 = g0 0 2 ∧ (0 ≤ (Int32.toInt r) ∧ (Int32.toInt r) ≤ 1) ∧ ((Int32.toInt r) = 1 → 0 ≤ (Int32.toInt p1) ∧ (Int32.toInt p1) ≤ 11)) := by
    intro g L hI hJ k0_0 k0_1
    unfold fX12_isLesson_p17
    have hc_ : (0 : Int32).toInt = 0 := by decide
    exact J18 0 g L (by decide) (by omega) hI hJ k0_0 k0_1
  refine Ex.ite (fun c8 => ?_) (fun c8 => ?_)
  ·
    have c8 := icc_lt (m := (Int32.toInt p1)) (n := 0) rfl (by decide) c8
    exact J17 g0 L0 hI hJ k0_0 k0_1
  ·
    have c8 := icc_nlt (m := (Int32.toInt p1)) (n := 0) rfl (by decide) c8
    have b9 : 0 ≤ (Int32.toInt (g0 0 1)) ∧ (Int32.toInt (g0 0 1)) ≤ 12 := hI 0 1 0 12 rfl
    refine Ex.ite (fun c10 => ?_) (fun c10 => ?_)
    ·
      have c10 := icc_le (m := (Int32.toInt (g0 0 1))) (n := (Int32.toInt p1)) rfl rfl c10
      exact J17 g0 L0 hI hJ k0_0 k0_1
    ·
      have c10 := icc_nle (m := (Int32.toInt (g0 0 1))) (n := (Int32.toInt p1)) rfl rfl c10
      have hc_ : (1 : Int32).toInt = 1 := by decide
      exact J18 1 g0 L0 (by decide) (by omega) hI hJ k0_0 k0_1
set_option maxHeartbeats 4000000 in
set_option maxRecDepth 100000 in
theorem sX12_isWhat (fu : Nat) (hfu : 1180591620717411303424 ≤ fu) (p1 : Int32) (p2 : Int32) (g0 : Nat → Nat → Int32) (L0 : Nat → Nat → Int64) (hI : zI MT g0) (hJ : mJ g0) : Ex (fX12_isWhat fu p1 p2 g0 L0) (fun (r : Int32) (g1 : Nat → Nat → Int32) (L1 : Nat → Nat → Int64) => zI MT g1 ∧ mJ g1 ∧ g1 0 18 = g0 0 18 ∧ g1 0 2 = g0 0 2 ∧ (0 ≤ (Int32.toInt r) ∧ (Int32.toInt r) ≤ 1) ∧ ((Int32.toInt r) = 1 → 0 ≤ (Int32.toInt p1) ∧ (Int32.toInt p1) ≤ (Int32.toInt p2))) := by
  have k0_0 : g0 0 18 = g0 0 18 := rfl
  have k0_1 : g0 0 2 = g0 0 2 := rfl
  unfold fX12_isWhat
  refine Ex.cb (sX12_within fu hfu p1 0 p2 g0 L0 hI hJ) (fun x1 g2 L3 hq5 => ?_)
  obtain ⟨hI, hJ, kk0, kk1, kk2, kk3, kk4, rb_, ip0⟩ := hq5
  have b6 : 0 ≤ (Int32.toInt x1) ∧ (Int32.toInt x1) ≤ 1 := rb_
  have ip7 : (Int32.toInt x1) = 1 → 0 ≤ (Int32.toInt p1) ∧ (Int32.toInt p1) ≤ (Int32.toInt p2) := ip0
  have hI : zI MT g2 := hI
  have hJ : mJ g2 := hJ
  have k0_0 : g2 0 18 = g0 0 18 := kk3.trans k0_0
  have k0_1 : g2 0 2 = g0 0 2 := kk4.trans k0_1
  refine Ex.cb (sX12_right fu hfu x1 1 g2 L3 hI hJ (by omega) (by decide)) (fun x8 g9 L10 hq12 => ?_)
  obtain ⟨hI, hJ, kk0, kk1, rb_, ip0⟩ := hq12
  have b13 : 0 ≤ (Int32.toInt x8) ∧ (Int32.toInt x8) ≤ 1 := rb_
  have ip14 : (Int32.toInt x8) = 1 → 1 ≤ (Int32.toInt x1) ∧ (Int32.toInt x1) ≤ 1 := ip0
  have hI : zI MT g9 := hI
  have hJ : mJ g9 := hJ
  have k0_0 : g9 0 18 = g0 0 18 := kk0.trans k0_0
  have k0_1 : g9 0 2 = g0 0 2 := kk1.trans k0_1
  refine Ex.ckb (z_bool (by omega)) ?_
  exact Ex.ret ⟨hI, hJ, k0_0, k0_1, (by omega), (by intro hr_; omega)⟩
set_option maxHeartbeats 4000000 in
set_option maxRecDepth 100000 in
theorem sX12_waitsSet (fu : Nat) (hfu : 1180591620717411303424 ≤ fu) (p1 : Int32) (g0 : Nat → Nat → Int32) (L0 : Nat → Nat → Int64) (hI : zI MT g0) (hJ : mJ g0) (hp1 : (0 ≤ (Int32.toInt p1) ∧ (Int32.toInt p1) ≤ 11)) : Ex (fX12_waitsSet fu p1 g0 L0) (fun (r : Int32) (g1 : Nat → Nat → Int32) (L1 : Nat → Nat → Int64) => zI MT g1 ∧ mJ g1 ∧ g1 0 18 = g0 0 18 ∧ g1 0 2 = g0 0 2) := by
  have k0_0 : g0 0 18 = g0 0 18 := rfl
  have k0_1 : g0 0 2 = g0 0 2 := rfl
  unfold fX12_waitsSet
  have lp4 : ∀ (v1 : Int32) (v2 : Int32) (v3 : Int32) (g : Nat → Nat → Int32) (L : Nat → Nat → Int64), (0 ≤ (Int32.toInt v1) ∧ (Int32.toInt v1) ≤ 11) → (0 ≤ (Int32.toInt v3) ∧ (Int32.toInt v3) ≤ 6) → zI MT g → mJ g → g 0 18 = g0 0 18 → g 0 2 = g0 0 2 → Ex (fX12_waitsSet_l4 fu v1 v2 v3 g L) (fun (r : Int32) (g1 : Nat → Nat → Int32) (L1 : Nat → Nat → Int64) => zI MT g1 ∧ mJ g1 ∧ g1 0 18 = g0 0 18 ∧ g1 0 2 = g0 0 2) := by
    intro v1 v2 v3 g L hb_v1 hb_v3 hI hJ k0_0 k0_1
    unfold fX12_waitsSet_l4
    refine Ex.loop (fun v => ((0 ≤ (Int32.toInt v1) ∧ (Int32.toInt v1) ≤ 11)) ∧ ((0 ≤ (Int32.toInt (v.2.1)) ∧ (Int32.toInt (v.2.1)) ≤ 6)) ∧ (zI MT (v.2.2.1)) ∧ (mJ (v.2.2.1)) ∧ ((v.2.2.1) 0 18 = g0 0 18) ∧ ((v.2.2.1) 0 2 = g0 0 2)) (fun v => 7 - (Int32.toInt (v.2.1))) (by omega) (by show 7 - (Int32.toInt v3) < (fu : Int); omega) ⟨hb_v1, hb_v3, hI, hJ, k0_0, k0_1⟩ (fun k4 v hv ih4 => ?_)
    obtain ⟨v2, v3, g, L⟩ := v
    obtain ⟨hb_v1, hb_v3, hI, hJ, k0_0, k0_1⟩ := hv
    have hb_v1 : (0 ≤ (Int32.toInt v1) ∧ (Int32.toInt v1) ≤ 11) := hb_v1
    have hb_v3 : (0 ≤ (Int32.toInt v3) ∧ (Int32.toInt v3) ≤ 6) := hb_v3
    have hI : zI MT g := hI
    have hJ : mJ g := hJ
    have k0_0 : g 0 18 = g0 0 18 := k0_0
    have k0_1 : g 0 2 = g0 0 2 := k0_1
    have ih4 : ∀ v' : Int32 × Int32 × (Nat → Nat → Int32) × (Nat → Nat → Int64), (((0 ≤ (Int32.toInt v1) ∧ (Int32.toInt v1) ≤ 11)) ∧ ((0 ≤ (Int32.toInt (v'.2.1)) ∧ (Int32.toInt (v'.2.1)) ≤ 6)) ∧ (zI MT (v'.2.2.1)) ∧ (mJ (v'.2.2.1)) ∧ ((v'.2.2.1) 0 18 = g0 0 18) ∧ ((v'.2.2.1) 0 2 = g0 0 2)) → 7 - (Int32.toInt (v'.2.1)) < 7 - (Int32.toInt v3) → 0 < 7 - (Int32.toInt v3) → Ex (k4 v') (fun (r : Int32) (g1 : Nat → Nat → Int32) (L1 : Nat → Nat → Int64) => zI MT g1 ∧ mJ g1 ∧ g1 0 18 = g0 0 18 ∧ g1 0 2 = g0 0 2) := ih4
    show Ex (fX12_waitsSet_s4 fu v1 k4 v2 v3 g L) (fun (r : Int32) (g1 : Nat → Nat → Int32) (L1 : Nat → Nat → Int64) => zI MT g1 ∧ mJ g1 ∧ g1 0 18 = g0 0 18 ∧ g1 0 2 = g0 0 2)
    unfold fX12_waitsSet_s4
    refine Ex.ck (by omega) (by omega) ?_
    have b1 : 0 ≤ (Int32.toInt (g 8 (Int32.toNatClampNeg v1))) ∧ (Int32.toInt (g 8 (Int32.toNatClampNeg v1))) ≤ 6 := hI 8 _ 0 6 rfl
    refine Ex.ite (fun c2 => ?_) (fun c2 => ?_)
    ·
      have c2 := icc_le (m := (Int32.toInt (g 8 (Int32.toNatClampNeg v1)))) (n := (Int32.toInt v3)) rfl rfl c2
      exact Ex.ret ⟨hI, hJ, k0_0, k0_1⟩
    ·
      have c2 := icc_nle (m := (Int32.toInt (g 8 (Int32.toNatClampNeg v1)))) (n := (Int32.toInt v3)) rfl rfl c2
      generalize z3q : (6 * v1) = z3
      have e4 : (Int32.toInt z3) = 6 * (Int32.toInt v1) := by rw [← z3q]; exact ic_mulc (by decide) rfl (by omega) (by omega)
      generalize z5q : (z3 + v3) = z5
      have e6 : (Int32.toInt z5) = (Int32.toInt z3) + (Int32.toInt v3) := by rw [← z5q]; exact ic_addc rfl rfl (by omega) (by omega)
      refine Ex.ck (by omega) (by omega) ?_
      have b7 : 0 ≤ (Int32.toInt (g 9 (Int32.toNatClampNeg z5))) ∧ (Int32.toInt (g 9 (Int32.toNatClampNeg z5))) ≤ 11 := hI 9 _ 0 11 rfl
      generalize z8q : ((1 : Int32) <<< (((g 9 (Int32.toNatClampNeg z5)) : Int32) &&& 31) : Int32) = z8
      generalize z9q : (v2 ||| z8) = z9
      refine Ex.lti (fun x10 x10e x10i => ?_)
      generalize z11q : (v3 + 1) = z11
      have e12 : (Int32.toInt z11) = (Int32.toInt v3) + 1 := by rw [← z11q]; exact ic_addc rfl (by decide) (by omega) (by omega)
      exact ih4 (x10, z11, g, L) ⟨(show (0 ≤ (Int32.toInt v1) ∧ (Int32.toInt v1) ≤ 11) from by omega), (show (0 ≤ (Int32.toInt z11) ∧ (Int32.toInt z11) ≤ 6) from by omega), hI, hJ, k0_0, k0_1⟩ (by show 7 - (Int32.toInt z11) < _; omega) (by omega)
  exact lp4 p1 0 0 g0 L0 (by omega) (by decide) hI hJ k0_0 k0_1
set_option maxHeartbeats 4000000 in
set_option maxRecDepth 100000 in
theorem sX12_lesson (fu : Nat) (hfu : 1180591620717411303424 ≤ fu) (p1 : Int32) (p2 : Int32) (g0 : Nat → Nat → Int32) (L0 : Nat → Nat → Int64) (hI : zI MT g0) (hJ : mJ g0) : Ex (fX12_lesson fu p1 p2 g0 L0) (fun (r : Int32) (g1 : Nat → Nat → Int32) (L1 : Nat → Nat → Int64) => zI MT g1 ∧ mJ g1 ∧ g1 0 18 = g0 0 18 ∧ g1 0 2 = g0 0 2) := by
  have k0_0 : g0 0 18 = g0 0 18 := rfl
  have k0_1 : g0 0 2 = g0 0 2 := rfl
  unfold fX12_lesson
  refine Ex.sti (hI.updN rfl) (fun g1 g1e hI => ?_)
  have k0_0 : g1 0 18 = g0 0 18 := by rw [g1e]; exact k0_0
  have k0_1 : g1 0 2 = g0 0 2 := by rw [g1e]; exact k0_1
  have hJ : mJ g1 := by rw [g1e]; exact mJ.upd hJ rfl
  refine Ex.cb (sX12_isLesson fu hfu p1 g1 L0 hI hJ) (fun x2 g3 L4 hq6 => ?_)
  obtain ⟨hI, hJ, kk0, kk1, rb_, ip0⟩ := hq6
  have b7 : 0 ≤ (Int32.toInt x2) ∧ (Int32.toInt x2) ≤ 1 := rb_
  have ip8 : (Int32.toInt x2) = 1 → 0 ≤ (Int32.toInt p1) ∧ (Int32.toInt p1) ≤ 11 := ip0
  have hI : zI MT g3 := hI
  have hJ : mJ g3 := hJ
  have k0_0 : g3 0 18 = g0 0 18 := kk0.trans k0_0
  have k0_1 : g3 0 2 = g0 0 2 := kk1.trans k0_1
  have J23 : ∀ (g : Nat → Nat → Int32) (L : Nat → Nat → Int64), zI MT g → mJ g → g 0 18 = g0 0 18 → g 0 2 = g0 0 2 → Ex (fX12_lesson_p23 fu g L) (fun (r : Int32) (g1 : Nat → Nat → Int32) (L1 : Nat → Nat → Int64) => zI MT g1 ∧ mJ g1 ∧ g1 0 18 = g0 0 18 ∧ g1 0 2 = g0 0 2) := by
    intro g L hI hJ k0_0 k0_1
    unfold fX12_lesson_p23
    exact Ex.ret ⟨hI, hJ, k0_0, k0_1⟩
  refine Ex.ite (fun c9 => ?_) (fun c9 => ?_)
  ·
    have c9 := icc_eq (m := (Int32.toInt x2)) (n := 0) rfl (by decide) c9
    exact J23 g3 L4 hI hJ k0_0 k0_1
  ·
    have c9 := icc_neq (m := (Int32.toInt x2)) (n := 0) rfl (by decide) c9
    refine Ex.cb (sX12_isWhat fu hfu p2 11 g3 L4 hI hJ) (fun x10 g11 L12 hq14 => ?_)
    obtain ⟨hI, hJ, kk0, kk1, rb_, ip0⟩ := hq14
    have b15 : 0 ≤ (Int32.toInt x10) ∧ (Int32.toInt x10) ≤ 1 := rb_
    have ip16 : (Int32.toInt x10) = 1 → 0 ≤ (Int32.toInt p2) ∧ (Int32.toInt p2) ≤ 11 := ip0
    have hI : zI MT g11 := hI
    have hJ : mJ g11 := hJ
    have k0_0 : g11 0 18 = g0 0 18 := kk0.trans k0_0
    have k0_1 : g11 0 2 = g0 0 2 := kk1.trans k0_1
    refine Ex.ite (fun c17 => ?_) (fun c17 => ?_)
    ·
      have c17 := icc_eq (m := (Int32.toInt x10)) (n := 0) rfl (by decide) c17
      exact J23 g11 L12 hI hJ k0_0 k0_1
    ·
      have c17 := icc_neq (m := (Int32.toInt x10)) (n := 0) rfl (by decide) c17
      refine Ex.ite (fun c18 => ?_) (fun c18 => ?_)
      ·
        refine Ex.ck (by omega) (by omega) ?_
        exact Ex.ret ⟨hI, hJ, k0_0, k0_1⟩
      ·
        refine Ex.ite (fun c19 => ?_) (fun c19 => ?_)
        ·
          refine Ex.ck (by omega) (by omega) ?_
          exact Ex.ret ⟨hI, hJ, k0_0, k0_1⟩
        ·
          refine Ex.ite (fun c20 => ?_) (fun c20 => ?_)
          ·
            refine Ex.ck (by omega) (by omega) ?_
            exact Ex.ret ⟨hI, hJ, k0_0, k0_1⟩
          ·
            refine Ex.ite (fun c21 => ?_) (fun c21 => ?_)
            ·
              generalize z22q : (0 + p1) = z22
              have e23 : (Int32.toInt z22) = 0 + (Int32.toInt p1) := by rw [← z22q]; exact ic_addc (by decide) rfl (by omega) (by omega)
              refine Ex.ck (by omega) (by omega) ?_
              exact Ex.ret ⟨hI, hJ, k0_0, k0_1⟩
            ·
              refine Ex.ite (fun c24 => ?_) (fun c24 => ?_)
              ·
                generalize z25q : (24 + p1) = z25
                have e26 : (Int32.toInt z25) = 24 + (Int32.toInt p1) := by rw [← z25q]; exact ic_addc (by decide) rfl (by omega) (by omega)
                refine Ex.ck (by omega) (by omega) ?_
                exact Ex.ret ⟨hI, hJ, k0_0, k0_1⟩
              ·
                refine Ex.ite (fun c27 => ?_) (fun c27 => ?_)
                ·
                  refine Ex.ck (by omega) (by omega) ?_
                  exact Ex.ret ⟨hI, hJ, k0_0, k0_1⟩
                ·
                  refine Ex.ite (fun c28 => ?_) (fun c28 => ?_)
                  ·
                    refine Ex.ck (by omega) (by omega) ?_
                    exact Ex.ret ⟨hI, hJ, k0_0, k0_1⟩
                  ·
                    refine Ex.ite (fun c29 => ?_) (fun c29 => ?_)
                    ·
                      refine Ex.ck (by omega) (by omega) ?_
                      exact Ex.ret ⟨hI, hJ, k0_0, k0_1⟩
                    ·
                      refine Ex.ite (fun c30 => ?_) (fun c30 => ?_)
                      ·
                        refine Ex.cb (sX12_waitsSet fu hfu p1 g11 L12 hI hJ (by omega)) (fun x31 g32 L33 hq35 => ?_)
                        obtain ⟨hI, hJ, kk0, kk1⟩ := hq35
                        have hI : zI MT g32 := hI
                        have hJ : mJ g32 := hJ
                        have k0_0 : g32 0 18 = g0 0 18 := kk0.trans k0_0
                        have k0_1 : g32 0 2 = g0 0 2 := kk1.trans k0_1
                        exact Ex.ret ⟨hI, hJ, k0_0, k0_1⟩
                      ·
                        refine Ex.ite (fun c36 => ?_) (fun c36 => ?_)
                        ·
                          generalize z37q : (36 + p1) = z37
                          have e38 : (Int32.toInt z37) = 36 + (Int32.toInt p1) := by rw [← z37q]; exact ic_addc (by decide) rfl (by omega) (by omega)
                          refine Ex.ck (by omega) (by omega) ?_
                          exact Ex.ret ⟨hI, hJ, k0_0, k0_1⟩
                        ·
                          refine Ex.ite (fun c39 => ?_) (fun c39 => ?_)
                          ·
                            refine Ex.ck (by omega) (by omega) ?_
                            exact Ex.ret ⟨hI, hJ, k0_0, k0_1⟩
                          ·
                            generalize z40q : (12 + p1) = z40
                            have e41 : (Int32.toInt z40) = 12 + (Int32.toInt p1) := by rw [← z40q]; exact ic_addc (by decide) rfl (by omega) (by omega)
                            refine Ex.ck (by omega) (by omega) ?_
                            exact Ex.ret ⟨hI, hJ, k0_0, k0_1⟩
set_option maxHeartbeats 4000000 in
set_option maxRecDepth 100000 in
theorem sX12_day (fu : Nat) (hfu : 1180591620717411303424 ≤ fu) (p1 : Int32) (p2 : Int32) (g0 : Nat → Nat → Int32) (L0 : Nat → Nat → Int64) (hI : zI MT g0) (hJ : mJ g0) : Ex (fX12_day fu p1 p2 g0 L0) (fun (r : Int32) (g1 : Nat → Nat → Int32) (L1 : Nat → Nat → Int64) => zI MT g1 ∧ mJ g1 ∧ g1 0 18 = g0 0 18 ∧ g1 0 2 = g0 0 2) := by
  have k0_0 : g0 0 18 = g0 0 18 := rfl
  have k0_1 : g0 0 2 = g0 0 2 := rfl
  unfold fX12_day
  refine Ex.sti (hI.updN rfl) (fun g1 g1e hI => ?_)
  have k0_0 : g1 0 18 = g0 0 18 := by rw [g1e]; exact k0_0
  have k0_1 : g1 0 2 = g0 0 2 := by rw [g1e]; exact k0_1
  have hJ : mJ g1 := by rw [g1e]; exact mJ.upd hJ rfl
  refine Ex.cb (sX12_isLesson fu hfu p1 g1 L0 hI hJ) (fun x2 g3 L4 hq6 => ?_)
  obtain ⟨hI, hJ, kk0, kk1, rb_, ip0⟩ := hq6
  have b7 : 0 ≤ (Int32.toInt x2) ∧ (Int32.toInt x2) ≤ 1 := rb_
  have ip8 : (Int32.toInt x2) = 1 → 0 ≤ (Int32.toInt p1) ∧ (Int32.toInt p1) ≤ 11 := ip0
  have hI : zI MT g3 := hI
  have hJ : mJ g3 := hJ
  have k0_0 : g3 0 18 = g0 0 18 := kk0.trans k0_0
  have k0_1 : g3 0 2 = g0 0 2 := kk1.trans k0_1
  have J22 : ∀ (g : Nat → Nat → Int32) (L : Nat → Nat → Int64), zI MT g → mJ g → g 0 18 = g0 0 18 → g 0 2 = g0 0 2 → Ex (fX12_day_p22 fu g L) (fun (r : Int32) (g1 : Nat → Nat → Int32) (L1 : Nat → Nat → Int64) => zI MT g1 ∧ mJ g1 ∧ g1 0 18 = g0 0 18 ∧ g1 0 2 = g0 0 2) := by
    intro g L hI hJ k0_0 k0_1
    unfold fX12_day_p22
    exact Ex.ret ⟨hI, hJ, k0_0, k0_1⟩
  refine Ex.ite (fun c9 => ?_) (fun c9 => ?_)
  ·
    have c9 := icc_eq (m := (Int32.toInt x2)) (n := 0) rfl (by decide) c9
    exact J22 g3 L4 hI hJ k0_0 k0_1
  ·
    have c9 := icc_neq (m := (Int32.toInt x2)) (n := 0) rfl (by decide) c9
    refine Ex.cb (sX12_isWhat fu hfu p2 4 g3 L4 hI hJ) (fun x10 g11 L12 hq14 => ?_)
    obtain ⟨hI, hJ, kk0, kk1, rb_, ip0⟩ := hq14
    have b15 : 0 ≤ (Int32.toInt x10) ∧ (Int32.toInt x10) ≤ 1 := rb_
    have ip16 : (Int32.toInt x10) = 1 → 0 ≤ (Int32.toInt p2) ∧ (Int32.toInt p2) ≤ 4 := ip0
    have hI : zI MT g11 := hI
    have hJ : mJ g11 := hJ
    have k0_0 : g11 0 18 = g0 0 18 := kk0.trans k0_0
    have k0_1 : g11 0 2 = g0 0 2 := kk1.trans k0_1
    refine Ex.ite (fun c17 => ?_) (fun c17 => ?_)
    ·
      have c17 := icc_eq (m := (Int32.toInt x10)) (n := 0) rfl (by decide) c17
      exact J22 g11 L12 hI hJ k0_0 k0_1
    ·
      have c17 := icc_neq (m := (Int32.toInt x10)) (n := 0) rfl (by decide) c17
      refine Ex.cb (sX12_works0 fu hfu g11 L12 hI hJ) (fun x18 g19 L20 hq22 => ?_)
      obtain ⟨hI, hJ, kk0, kk1⟩ := hq22
      have hI : zI MT g19 := hI
      have hJ : mJ g19 := hJ
      have k0_0 : g19 0 18 = g0 0 18 := kk0.trans k0_0
      have k0_1 : g19 0 2 = g0 0 2 := kk1.trans k0_1
      have J88 : ∀ (t0 : Int32) (g : Nat → Nat → Int32) (L : Nat → Nat → Int64), zI MT g → mJ g → g 0 18 = g0 0 18 → g 0 2 = g0 0 2 → Ex (fX12_day_p88 fu t0 g L) (fun (r : Int32) (g1 : Nat → Nat → Int32) (L1 : Nat → Nat → Int64) => zI MT g1 ∧ mJ g1 ∧ g1 0 18 = g0 0 18 ∧ g1 0 2 = g0 0 2) := by
        intro t0 g L hI hJ k0_0 k0_1
        unfold fX12_day_p88
        exact Ex.ret ⟨hI, hJ, k0_0, k0_1⟩
      refine Ex.ite (fun c23 => ?_) (fun c23 => ?_)
      ·
        have c23 := icc_eq (m := (Int32.toInt p2)) (n := 0) rfl (by decide) c23
        refine Ex.ck (by omega) (by omega) ?_
        exact J88 (g19 31 (Int32.toNatClampNeg p1)) g19 L20 hI hJ k0_0 k0_1
      ·
        have c23 := icc_neq (m := (Int32.toInt p2)) (n := 0) rfl (by decide) c23
        refine Ex.ite (fun c24 => ?_) (fun c24 => ?_)
        ·
          have c24 := icc_eq (m := (Int32.toInt p2)) (n := 1) rfl (by decide) c24
          refine Ex.ck (by omega) (by omega) ?_
          exact J88 (g19 32 (Int32.toNatClampNeg p1)) g19 L20 hI hJ k0_0 k0_1
        ·
          have c24 := icc_neq (m := (Int32.toInt p2)) (n := 1) rfl (by decide) c24
          refine Ex.ite (fun c25 => ?_) (fun c25 => ?_)
          ·
            have c25 := icc_eq (m := (Int32.toInt p2)) (n := 2) rfl (by decide) c25
            refine Ex.cb (sX12_late fu hfu p1 g19 L20 hI hJ (by omega)) (fun x26 g27 L28 hq30 => ?_)
            obtain ⟨hI, hJ, kk0, kk1⟩ := hq30
            have hI : zI MT g27 := hI
            have hJ : mJ g27 := hJ
            have k0_0 : g27 0 18 = g0 0 18 := kk0.trans k0_0
            have k0_1 : g27 0 2 = g0 0 2 := kk1.trans k0_1
            exact J88 x26 g27 L28 hI hJ k0_0 k0_1
          ·
            have c25 := icc_neq (m := (Int32.toInt p2)) (n := 2) rfl (by decide) c25
            refine Ex.ite (fun c31 => ?_) (fun c31 => ?_)
            ·
              have c31 := icc_eq (m := (Int32.toInt p2)) (n := 3) rfl (by decide) c31
              refine Ex.ck (by omega) (by omega) ?_
              exact J88 (g19 33 (Int32.toNatClampNeg p1)) g19 L20 hI hJ k0_0 k0_1
            ·
              have c31 := icc_neq (m := (Int32.toInt p2)) (n := 3) rfl (by decide) c31
              refine Ex.ck (by omega) (by omega) ?_
              have b32 : (-1) ≤ (Int32.toInt (g19 34 (Int32.toNatClampNeg p1))) ∧ (Int32.toInt (g19 34 (Int32.toNatClampNeg p1))) ≤ 11 := hI 34 _ (-1) 11 rfl
              exact J88 (g19 34 (Int32.toNatClampNeg p1)) g19 L20 hI hJ k0_0 k0_1
set_option maxHeartbeats 4000000 in
set_option maxRecDepth 100000 in
theorem sX12_later (fu : Nat) (hfu : 1180591620717411303424 ≤ fu) (g0 : Nat → Nat → Int32) (L0 : Nat → Nat → Int64) (hI : zI MT g0) (hJ : mJ g0) : Ex (fX12_later fu g0 L0) (fun (r : Int32) (g1 : Nat → Nat → Int32) (L1 : Nat → Nat → Int64) => zI MT g1 ∧ mJ g1 ∧ g1 0 18 = g0 0 18 ∧ g1 0 2 = g0 0 2) := by
  have k0_0 : g0 0 18 = g0 0 18 := rfl
  have k0_1 : g0 0 2 = g0 0 2 := rfl
  unfold fX12_later
  have lp4 : ∀ (v1 : Int32) (v2 : Int32) (g : Nat → Nat → Int32) (L : Nat → Nat → Int64), (0 ≤ (Int32.toInt v2) ∧ (Int32.toInt v2) ≤ 12) → zI MT g → mJ g → g 0 18 = g0 0 18 → g 0 2 = g0 0 2 → Ex (fX12_later_l4 fu v1 v2 g L) (fun (r : Int32) (g1 : Nat → Nat → Int32) (L1 : Nat → Nat → Int64) => zI MT g1 ∧ mJ g1 ∧ g1 0 18 = g0 0 18 ∧ g1 0 2 = g0 0 2) := by
    intro v1 v2 g L hb_v2 hI hJ k0_0 k0_1
    unfold fX12_later_l4
    refine Ex.loop (fun v => ((0 ≤ (Int32.toInt (v.2.1)) ∧ (Int32.toInt (v.2.1)) ≤ 12)) ∧ (zI MT (v.2.2.1)) ∧ (mJ (v.2.2.1)) ∧ ((v.2.2.1) 0 18 = g0 0 18) ∧ ((v.2.2.1) 0 2 = g0 0 2)) (fun v => 13 - (Int32.toInt (v.2.1))) (by omega) (by show 13 - (Int32.toInt v2) < (fu : Int); omega) ⟨hb_v2, hI, hJ, k0_0, k0_1⟩ (fun k4 v hv ih4 => ?_)
    obtain ⟨v1, v2, g, L⟩ := v
    obtain ⟨hb_v2, hI, hJ, k0_0, k0_1⟩ := hv
    have hb_v2 : (0 ≤ (Int32.toInt v2) ∧ (Int32.toInt v2) ≤ 12) := hb_v2
    have hI : zI MT g := hI
    have hJ : mJ g := hJ
    have k0_0 : g 0 18 = g0 0 18 := k0_0
    have k0_1 : g 0 2 = g0 0 2 := k0_1
    have ih4 : ∀ v' : Int32 × Int32 × (Nat → Nat → Int32) × (Nat → Nat → Int64), (((0 ≤ (Int32.toInt (v'.2.1)) ∧ (Int32.toInt (v'.2.1)) ≤ 12)) ∧ (zI MT (v'.2.2.1)) ∧ (mJ (v'.2.2.1)) ∧ ((v'.2.2.1) 0 18 = g0 0 18) ∧ ((v'.2.2.1) 0 2 = g0 0 2)) → 13 - (Int32.toInt (v'.2.1)) < 13 - (Int32.toInt v2) → 0 < 13 - (Int32.toInt v2) → Ex (k4 v') (fun (r : Int32) (g1 : Nat → Nat → Int32) (L1 : Nat → Nat → Int64) => zI MT g1 ∧ mJ g1 ∧ g1 0 18 = g0 0 18 ∧ g1 0 2 = g0 0 2) := ih4
    show Ex (fX12_later_s4 fu k4 v1 v2 g L) (fun (r : Int32) (g1 : Nat → Nat → Int32) (L1 : Nat → Nat → Int64) => zI MT g1 ∧ mJ g1 ∧ g1 0 18 = g0 0 18 ∧ g1 0 2 = g0 0 2)
    unfold fX12_later_s4
    have b1 : 0 ≤ (Int32.toInt (g 0 1)) ∧ (Int32.toInt (g 0 1)) ≤ 12 := hI 0 1 0 12 rfl
    refine Ex.ite (fun c2 => ?_) (fun c2 => ?_)
    ·
      have c2 := icc_le (m := (Int32.toInt (g 0 1))) (n := (Int32.toInt v2)) rfl rfl c2
      exact Ex.ret ⟨hI, hJ, k0_0, k0_1⟩
    ·
      have c2 := icc_nle (m := (Int32.toInt (g 0 1))) (n := (Int32.toInt v2)) rfl rfl c2
      refine Ex.ck (by omega) (by omega) ?_
      refine Ex.ck (by omega) (by omega) ?_
      have J35 : ∀ (t0 : Int32) (t1 : Int32) (g : Nat → Nat → Int32) (L : Nat → Nat → Int64), (0 ≤ (Int32.toInt v2) ∧ (Int32.toInt v2) ≤ 11) → zI MT g → mJ g → g 0 18 = g0 0 18 → g 0 2 = g0 0 2 → Ex (fX12_later_p35 fu k4 v2 t0 t1 g L) (fun (r : Int32) (g1 : Nat → Nat → Int32) (L1 : Nat → Nat → Int64) => zI MT g1 ∧ mJ g1 ∧ g1 0 18 = g0 0 18 ∧ g1 0 2 = g0 0 2) := by
        intro t0 t1 g L hb_v2 hI hJ k0_0 k0_1
        unfold fX12_later_p35
        generalize z3q : (t1 ||| t0) = z3
        refine Ex.lti (fun x4 x4e x4i => ?_)
        generalize z5q : (v2 + 1) = z5
        have e6 : (Int32.toInt z5) = (Int32.toInt v2) + 1 := by rw [← z5q]; exact ic_addc rfl (by decide) (by omega) (by omega)
        exact ih4 (x4, z5, g, L) ⟨(show (0 ≤ (Int32.toInt z5) ∧ (Int32.toInt z5) ≤ 12) from by omega), hI, hJ, k0_0, k0_1⟩ (by show 13 - (Int32.toInt z5) < _; omega) (by omega)
      refine Ex.ite (fun c7 => ?_) (fun c7 => ?_)
      ·
        have c7 := icc_le (m := (Int32.toInt (g 32 (Int32.toNatClampNeg v2)))) (n := (Int32.toInt (g 37 (Int32.toNatClampNeg v2)))) rfl rfl c7
        exact J35 0 v1 g L (by omega) hI hJ k0_0 k0_1
      ·
        have c7 := icc_nle (m := (Int32.toInt (g 32 (Int32.toNatClampNeg v2)))) (n := (Int32.toInt (g 37 (Int32.toNatClampNeg v2)))) rfl rfl c7
        generalize z8q : ((1 : Int32) <<< ((v2 : Int32) &&& 31) : Int32) = z8
        exact J35 z8 v1 g L (by omega) hI hJ k0_0 k0_1
  exact lp4 0 0 g0 L0 (by decide) hI hJ k0_0 k0_1
set_option maxHeartbeats 4000000 in
set_option maxRecDepth 100000 in
theorem sX12_copies_32_37 (fu : Nat) (hfu : 1180591620717411303424 ≤ fu) (g0 : Nat → Nat → Int32) (L0 : Nat → Nat → Int64) (hI : zI MT g0) (hJ : mJ g0) : Ex (fX12_copies_32_37 fu g0 L0) (fun (r : Unit) (g1 : Nat → Nat → Int32) (L1 : Nat → Nat → Int64) => zI MT g1 ∧ mJ g1 ∧ g1 0 18 = g0 0 18 ∧ g1 0 2 = g0 0 2) := by
  have k0_0 : g0 0 18 = g0 0 18 := rfl
  have k0_1 : g0 0 2 = g0 0 2 := rfl
  unfold fX12_copies_32_37
  have lp2 : ∀ (v3 : Int32) (g : Nat → Nat → Int32) (L : Nat → Nat → Int64), (0 ≤ (Int32.toInt v3) ∧ (Int32.toInt v3) ≤ 12) → zI MT g → mJ g → g 0 18 = g0 0 18 → g 0 2 = g0 0 2 → Ex (fX12_copies_32_37_l2 fu v3 g L) (fun (r : Unit) (g1 : Nat → Nat → Int32) (L1 : Nat → Nat → Int64) => zI MT g1 ∧ mJ g1 ∧ g1 0 18 = g0 0 18 ∧ g1 0 2 = g0 0 2) := by
    intro v3 g L hb_v3 hI hJ k0_0 k0_1
    unfold fX12_copies_32_37_l2
    refine Ex.loop (fun v => ((0 ≤ (Int32.toInt (v.1)) ∧ (Int32.toInt (v.1)) ≤ 12)) ∧ (zI MT (v.2.1)) ∧ (mJ (v.2.1)) ∧ ((v.2.1) 0 18 = g0 0 18) ∧ ((v.2.1) 0 2 = g0 0 2)) (fun v => 13 - (Int32.toInt (v.1))) (by omega) (by show 13 - (Int32.toInt v3) < (fu : Int); omega) ⟨hb_v3, hI, hJ, k0_0, k0_1⟩ (fun k2 v hv ih2 => ?_)
    obtain ⟨v3, g, L⟩ := v
    obtain ⟨hb_v3, hI, hJ, k0_0, k0_1⟩ := hv
    have hb_v3 : (0 ≤ (Int32.toInt v3) ∧ (Int32.toInt v3) ≤ 12) := hb_v3
    have hI : zI MT g := hI
    have hJ : mJ g := hJ
    have k0_0 : g 0 18 = g0 0 18 := k0_0
    have k0_1 : g 0 2 = g0 0 2 := k0_1
    have ih2 : ∀ v' : Int32 × (Nat → Nat → Int32) × (Nat → Nat → Int64), (((0 ≤ (Int32.toInt (v'.1)) ∧ (Int32.toInt (v'.1)) ≤ 12)) ∧ (zI MT (v'.2.1)) ∧ (mJ (v'.2.1)) ∧ ((v'.2.1) 0 18 = g0 0 18) ∧ ((v'.2.1) 0 2 = g0 0 2)) → 13 - (Int32.toInt (v'.1)) < 13 - (Int32.toInt v3) → 0 < 13 - (Int32.toInt v3) → Ex (k2 v') (fun (r : Unit) (g1 : Nat → Nat → Int32) (L1 : Nat → Nat → Int64) => zI MT g1 ∧ mJ g1 ∧ g1 0 18 = g0 0 18 ∧ g1 0 2 = g0 0 2) := ih2
    show Ex (fX12_copies_32_37_s2 fu k2 v3 g L) (fun (r : Unit) (g1 : Nat → Nat → Int32) (L1 : Nat → Nat → Int64) => zI MT g1 ∧ mJ g1 ∧ g1 0 18 = g0 0 18 ∧ g1 0 2 = g0 0 2)
    unfold fX12_copies_32_37_s2
    refine Ex.ite (fun c1 => ?_) (fun c1 => ?_)
    ·
      have c1 := icc_le (m := 12) (n := (Int32.toInt v3)) (by decide) rfl c1
      exact Ex.ret ⟨hI, hJ, k0_0, k0_1⟩
    ·
      have c1 := icc_nle (m := 12) (n := (Int32.toInt v3)) (by decide) rfl c1
      refine Ex.ck (by omega) (by omega) ?_
      refine Ex.ck (by omega) (by omega) ?_
      refine Ex.sti (hI.updN rfl) (fun g2 g2e hI => ?_)
      have k0_0 : g2 0 18 = g0 0 18 := by rw [g2e]; exact k0_0
      have k0_1 : g2 0 2 = g0 0 2 := by rw [g2e]; exact k0_1
      have hJ : mJ g2 := by rw [g2e]; exact mJ.upd hJ rfl
      generalize z3q : (v3 + 1) = z3
      have e4 : (Int32.toInt z3) = (Int32.toInt v3) + 1 := by rw [← z3q]; exact ic_addc rfl (by decide) (by omega) (by omega)
      exact ih2 (z3, g2, L) ⟨(show (0 ≤ (Int32.toInt z3) ∧ (Int32.toInt z3) ≤ 12) from by omega), hI, hJ, k0_0, k0_1⟩ (by show 13 - (Int32.toInt z3) < _; omega) (by omega)
  exact lp2 0 g0 L0 (by decide) hI hJ k0_0 k0_1
set_option maxHeartbeats 4000000 in
set_option maxRecDepth 100000 in
theorem sX12_moreBy (fu : Nat) (hfu : 1180591620717411303424 ≤ fu) (p1 : Int32) (p2 : Int32) (g0 : Nat → Nat → Int32) (L0 : Nat → Nat → Int64) (hI : zI MT g0) (hJ : mJ g0) (hp1 : (0 ≤ (Int32.toInt p1) ∧ (Int32.toInt p1) ≤ 11)) (hp2 : (0 ≤ (Int32.toInt p2) ∧ (Int32.toInt p2) ≤ 120)) : Ex (fX12_moreBy fu p1 p2 g0 L0) (fun (r : Int32) (g1 : Nat → Nat → Int32) (L1 : Nat → Nat → Int64) => zI MT g1 ∧ mJ g1 ∧ g1 0 18 = g0 0 18 ∧ g1 0 2 = g0 0 2) := by
  have k0_0 : g0 0 18 = g0 0 18 := rfl
  have k0_1 : g0 0 2 = g0 0 2 := rfl
  unfold fX12_moreBy
  refine Ex.cb (sX12_works0 fu hfu g0 L0 hI hJ) (fun x1 g2 L3 hq5 => ?_)
  obtain ⟨hI, hJ, kk0, kk1⟩ := hq5
  have hI : zI MT g2 := hI
  have hJ : mJ g2 := hJ
  have k0_0 : g2 0 18 = g0 0 18 := kk0.trans k0_0
  have k0_1 : g2 0 2 = g0 0 2 := kk1.trans k0_1
  refine Ex.cb (sX12_copies_32_37 fu hfu g2 L3 hI hJ) (fun x6 g7 L8 hq10 => ?_)
  obtain ⟨hI, hJ, kk0, kk1⟩ := hq10
  have hI : zI MT g7 := hI
  have hJ : mJ g7 := hJ
  have k0_0 : g7 0 18 = g0 0 18 := kk0.trans k0_0
  have k0_1 : g7 0 2 = g0 0 2 := kk1.trans k0_1
  refine Ex.cb (sX12_lates fu hfu g7 L8 hI hJ) (fun x11 g12 L13 hq15 => ?_)
  obtain ⟨hI, hJ, kk0, kk1⟩ := hq15
  have hI : zI MT g12 := hI
  have hJ : mJ g12 := hJ
  have k0_0 : g12 0 18 = g0 0 18 := kk0.trans k0_0
  have k0_1 : g12 0 2 = g0 0 2 := kk1.trans k0_1
  generalize z16q : (0 + p1) = z16
  have e17 : (Int32.toInt z16) = 0 + (Int32.toInt p1) := by rw [← z16q]; exact ic_addc (by decide) rfl (by omega) (by omega)
  refine Ex.ck (by omega) (by omega) ?_
  generalize z18q : ((g12 12 (Int32.toNatClampNeg z16)) + p2) = z18
  refine Ex.ck (by omega) (by omega) ?_
  refine Ex.sti (hI.updN rfl) (fun g19 g19e hI => ?_)
  have k0_0 : g19 0 18 = g0 0 18 := by rw [g19e]; exact k0_0
  have k0_1 : g19 0 2 = g0 0 2 := by rw [g19e]; exact k0_1
  have hJ : mJ g19 := by rw [g19e]; exact mJ.upd hJ rfl
  refine Ex.sti (hI.updN rfl) (fun g20 g20e hI => ?_)
  have k0_0 : g20 0 18 = g0 0 18 := by rw [g20e]; exact k0_0
  have k0_1 : g20 0 2 = g0 0 2 := by rw [g20e]; exact k0_1
  have hJ : mJ g20 := by rw [g20e]; exact mJ.upd hJ rfl
  refine Ex.cb (sX12_works0 fu hfu g20 L13 hI hJ) (fun x21 g22 L23 hq25 => ?_)
  obtain ⟨hI, hJ, kk0, kk1⟩ := hq25
  have hI : zI MT g22 := hI
  have hJ : mJ g22 := hJ
  have k0_0 : g22 0 18 = g0 0 18 := kk0.trans k0_0
  have k0_1 : g22 0 2 = g0 0 2 := kk1.trans k0_1
  refine Ex.sti (hI.updN rfl) (fun g26 g26e hI => ?_)
  have k0_0 : g26 0 18 = g0 0 18 := by rw [g26e]; exact k0_0
  have k0_1 : g26 0 2 = g0 0 2 := by rw [g26e]; exact k0_1
  have hJ : mJ g26 := by rw [g26e]; exact mJ.upd hJ rfl
  have e27 : (Int32.toInt z16) = 0 + (Int32.toInt p1) := by rw [← z16q]; exact ic_addc (by decide) rfl (by omega) (by omega)
  refine Ex.ck (by omega) (by omega) ?_
  generalize z28q : ((g26 12 (Int32.toNatClampNeg z16)) - p2) = z28
  refine Ex.ck (by omega) (by omega) ?_
  refine Ex.sti (hI.updN rfl) (fun g29 g29e hI => ?_)
  have k0_0 : g29 0 18 = g0 0 18 := by rw [g29e]; exact k0_0
  have k0_1 : g29 0 2 = g0 0 2 := by rw [g29e]; exact k0_1
  have hJ : mJ g29 := by rw [g29e]; exact mJ.upd hJ rfl
  refine Ex.cb (sX12_lates fu hfu g29 L23 hI hJ) (fun x30 g31 L32 hq34 => ?_)
  obtain ⟨hI, hJ, kk0, kk1⟩ := hq34
  have hI : zI MT g31 := hI
  have hJ : mJ g31 := hJ
  have k0_0 : g31 0 18 = g0 0 18 := kk0.trans k0_0
  have k0_1 : g31 0 2 = g0 0 2 := kk1.trans k0_1
  generalize z35q : (x30 - x11) = z35
  exact Ex.ret ⟨hI, hJ, k0_0, k0_1⟩
set_option maxHeartbeats 4000000 in
set_option maxRecDepth 100000 in
theorem sX12_far (fu : Nat) (hfu : 1180591620717411303424 ≤ fu) (p1 : Int32) (p2 : Int32) (p3 : Int32) (g0 : Nat → Nat → Int32) (L0 : Nat → Nat → Int64) (hI : zI MT g0) (hJ : mJ g0) : Ex (fX12_far fu p1 p2 p3 g0 L0) (fun (r : Int32) (g1 : Nat → Nat → Int32) (L1 : Nat → Nat → Int64) => zI MT g1 ∧ mJ g1 ∧ g1 0 18 = g0 0 18 ∧ g1 0 2 = g0 0 2) := by
  have k0_0 : g0 0 18 = g0 0 18 := rfl
  have k0_1 : g0 0 2 = g0 0 2 := rfl
  unfold fX12_far
  refine Ex.sti (hI.updN rfl) (fun g1 g1e hI => ?_)
  have k0_0 : g1 0 18 = g0 0 18 := by rw [g1e]; exact k0_0
  have k0_1 : g1 0 2 = g0 0 2 := by rw [g1e]; exact k0_1
  have hJ : mJ g1 := by rw [g1e]; exact mJ.upd hJ rfl
  refine Ex.cb (sX12_isLesson fu hfu p1 g1 L0 hI hJ) (fun x2 g3 L4 hq6 => ?_)
  obtain ⟨hI, hJ, kk0, kk1, rb_, ip0⟩ := hq6
  have b7 : 0 ≤ (Int32.toInt x2) ∧ (Int32.toInt x2) ≤ 1 := rb_
  have ip8 : (Int32.toInt x2) = 1 → 0 ≤ (Int32.toInt p1) ∧ (Int32.toInt p1) ≤ 11 := ip0
  have hI : zI MT g3 := hI
  have hJ : mJ g3 := hJ
  have k0_0 : g3 0 18 = g0 0 18 := kk0.trans k0_0
  have k0_1 : g3 0 2 = g0 0 2 := kk1.trans k0_1
  have J37 : ∀ (g : Nat → Nat → Int32) (L : Nat → Nat → Int64), zI MT g → mJ g → g 0 18 = g0 0 18 → g 0 2 = g0 0 2 → Ex (fX12_far_p37 fu g L) (fun (r : Int32) (g1 : Nat → Nat → Int32) (L1 : Nat → Nat → Int64) => zI MT g1 ∧ mJ g1 ∧ g1 0 18 = g0 0 18 ∧ g1 0 2 = g0 0 2) := by
    intro g L hI hJ k0_0 k0_1
    unfold fX12_far_p37
    exact Ex.ret ⟨hI, hJ, k0_0, k0_1⟩
  refine Ex.ite (fun c9 => ?_) (fun c9 => ?_)
  ·
    have c9 := icc_eq (m := (Int32.toInt x2)) (n := 0) rfl (by decide) c9
    exact J37 g3 L4 hI hJ k0_0 k0_1
  ·
    have c9 := icc_neq (m := (Int32.toInt x2)) (n := 0) rfl (by decide) c9
    refine Ex.cb (sX12_isWhat fu hfu p3 1 g3 L4 hI hJ) (fun x10 g11 L12 hq14 => ?_)
    obtain ⟨hI, hJ, kk0, kk1, rb_, ip0⟩ := hq14
    have b15 : 0 ≤ (Int32.toInt x10) ∧ (Int32.toInt x10) ≤ 1 := rb_
    have ip16 : (Int32.toInt x10) = 1 → 0 ≤ (Int32.toInt p3) ∧ (Int32.toInt p3) ≤ 1 := ip0
    have hI : zI MT g11 := hI
    have hJ : mJ g11 := hJ
    have k0_0 : g11 0 18 = g0 0 18 := kk0.trans k0_0
    have k0_1 : g11 0 2 = g0 0 2 := kk1.trans k0_1
    refine Ex.ite (fun c17 => ?_) (fun c17 => ?_)
    ·
      have c17 := icc_eq (m := (Int32.toInt x10)) (n := 0) rfl (by decide) c17
      exact J37 g11 L12 hI hJ k0_0 k0_1
    ·
      have c17 := icc_neq (m := (Int32.toInt x10)) (n := 0) rfl (by decide) c17
      refine Ex.cb (sX12_within fu hfu p2 0 120 g11 L12 hI hJ) (fun x18 g19 L20 hq22 => ?_)
      obtain ⟨hI, hJ, kk0, kk1, kk2, kk3, kk4, rb_, ip0⟩ := hq22
      have b23 : 0 ≤ (Int32.toInt x18) ∧ (Int32.toInt x18) ≤ 1 := rb_
      have ip24 : (Int32.toInt x18) = 1 → 0 ≤ (Int32.toInt p2) ∧ (Int32.toInt p2) ≤ 120 := ip0
      have hI : zI MT g19 := hI
      have hJ : mJ g19 := hJ
      have k0_0 : g19 0 18 = g0 0 18 := kk3.trans k0_0
      have k0_1 : g19 0 2 = g0 0 2 := kk4.trans k0_1
      refine Ex.cb (sX12_right fu hfu x18 2 g19 L20 hI hJ (by omega) (by decide)) (fun x25 g26 L27 hq29 => ?_)
      obtain ⟨hI, hJ, kk0, kk1, rb_, ip0⟩ := hq29
      have b30 : 0 ≤ (Int32.toInt x25) ∧ (Int32.toInt x25) ≤ 1 := rb_
      have ip31 : (Int32.toInt x25) = 1 → 1 ≤ (Int32.toInt x18) ∧ (Int32.toInt x18) ≤ 1 := ip0
      have hI : zI MT g26 := hI
      have hJ : mJ g26 := hJ
      have k0_0 : g26 0 18 = g0 0 18 := kk0.trans k0_0
      have k0_1 : g26 0 2 = g0 0 2 := kk1.trans k0_1
      refine Ex.ite (fun c32 => ?_) (fun c32 => ?_)
      ·
        have c32 := icc_eq (m := (Int32.toInt x25)) (n := 0) rfl (by decide) c32
        exact J37 g26 L27 hI hJ k0_0 k0_1
      ·
        have c32 := icc_neq (m := (Int32.toInt x25)) (n := 0) rfl (by decide) c32
        refine Ex.cb (sX12_moreBy fu hfu p1 p2 g26 L27 hI hJ (by omega) (by omega)) (fun x33 g34 L35 hq37 => ?_)
        obtain ⟨hI, hJ, kk0, kk1⟩ := hq37
        have hI : zI MT g34 := hI
        have hJ : mJ g34 := hJ
        have k0_0 : g34 0 18 = g0 0 18 := kk0.trans k0_0
        have k0_1 : g34 0 2 = g0 0 2 := kk1.trans k0_1
        have J60 : ∀ (t0 : Int32) (g : Nat → Nat → Int32) (L : Nat → Nat → Int64), zI MT g → mJ g → g 0 18 = g0 0 18 → g 0 2 = g0 0 2 → Ex (fX12_far_p60 fu t0 g L) (fun (r : Int32) (g1 : Nat → Nat → Int32) (L1 : Nat → Nat → Int64) => zI MT g1 ∧ mJ g1 ∧ g1 0 18 = g0 0 18 ∧ g1 0 2 = g0 0 2) := by
          intro t0 g L hI hJ k0_0 k0_1
          unfold fX12_far_p60
          exact Ex.ret ⟨hI, hJ, k0_0, k0_1⟩
        refine Ex.ite (fun c38 => ?_) (fun c38 => ?_)
        ·
          have c38 := icc_eq (m := (Int32.toInt p3)) (n := 0) rfl (by decide) c38
          refine Ex.cb (sX12_later fu hfu g34 L35 hI hJ) (fun x39 g40 L41 hq43 => ?_)
          obtain ⟨hI, hJ, kk0, kk1⟩ := hq43
          have hI : zI MT g40 := hI
          have hJ : mJ g40 := hJ
          have k0_0 : g40 0 18 = g0 0 18 := kk0.trans k0_0
          have k0_1 : g40 0 2 = g0 0 2 := kk1.trans k0_1
          exact J60 x39 g40 L41 hI hJ k0_0 k0_1
        ·
          have c38 := icc_neq (m := (Int32.toInt p3)) (n := 0) rfl (by decide) c38
          exact J60 x33 g34 L35 hI hJ k0_0 k0_1
set_option maxHeartbeats 4000000 in
set_option maxRecDepth 100000 in
theorem sX12_reaches (fu : Nat) (hfu : 1180591620717411303424 ≤ fu) (p1 : Int32) (p2 : Int32) (g0 : Nat → Nat → Int32) (L0 : Nat → Nat → Int64) (hI : zI MT g0) (hJ : mJ g0) : Ex (fX12_reaches fu p1 p2 g0 L0) (fun (r : Int32) (g1 : Nat → Nat → Int32) (L1 : Nat → Nat → Int64) => zI MT g1 ∧ mJ g1 ∧ g1 0 18 = g0 0 18 ∧ g1 0 2 = g0 0 2 ∧ ((-1) ≤ (Int32.toInt r) ∧ (Int32.toInt r) ≤ 120)) := by
  have k0_0 : g0 0 18 = g0 0 18 := rfl
  have k0_1 : g0 0 2 = g0 0 2 := rfl
  unfold fX12_reaches
  refine Ex.sti (hI.updN rfl) (fun g1 g1e hI => ?_)
  have k0_0 : g1 0 18 = g0 0 18 := by rw [g1e]; exact k0_0
  have k0_1 : g1 0 2 = g0 0 2 := by rw [g1e]; exact k0_1
  have hJ : mJ g1 := by rw [g1e]; exact mJ.upd hJ rfl
  refine Ex.cb (sX12_isLesson fu hfu p1 g1 L0 hI hJ) (fun x2 g3 L4 hq6 => ?_)
  obtain ⟨hI, hJ, kk0, kk1, rb_, ip0⟩ := hq6
  have b7 : 0 ≤ (Int32.toInt x2) ∧ (Int32.toInt x2) ≤ 1 := rb_
  have ip8 : (Int32.toInt x2) = 1 → 0 ≤ (Int32.toInt p1) ∧ (Int32.toInt p1) ≤ 11 := ip0
  have hI : zI MT g3 := hI
  have hJ : mJ g3 := hJ
  have k0_0 : g3 0 18 = g0 0 18 := kk0.trans k0_0
  have k0_1 : g3 0 2 = g0 0 2 := kk1.trans k0_1
  have J39 : ∀ (g : Nat → Nat → Int32) (L : Nat → Nat → Int64), zI MT g → mJ g → g 0 18 = g0 0 18 → g 0 2 = g0 0 2 → Ex (fX12_reaches_p39 fu g L) (fun (r : Int32) (g1 : Nat → Nat → Int32) (L1 : Nat → Nat → Int64) => zI MT g1 ∧ mJ g1 ∧ g1 0 18 = g0 0 18 ∧ g1 0 2 = g0 0 2 ∧ ((-1) ≤ (Int32.toInt r) ∧ (Int32.toInt r) ≤ 120)) := by
    intro g L hI hJ k0_0 k0_1
    unfold fX12_reaches_p39
    exact Ex.ret ⟨hI, hJ, k0_0, k0_1, (by decide)⟩
  refine Ex.ite (fun c9 => ?_) (fun c9 => ?_)
  ·
    have c9 := icc_eq (m := (Int32.toInt x2)) (n := 0) rfl (by decide) c9
    exact J39 g3 L4 hI hJ k0_0 k0_1
  ·
    have c9 := icc_neq (m := (Int32.toInt x2)) (n := 0) rfl (by decide) c9
    refine Ex.cb (sX12_isLesson fu hfu p2 g3 L4 hI hJ) (fun x10 g11 L12 hq14 => ?_)
    obtain ⟨hI, hJ, kk0, kk1, rb_, ip0⟩ := hq14
    have b15 : 0 ≤ (Int32.toInt x10) ∧ (Int32.toInt x10) ≤ 1 := rb_
    have ip16 : (Int32.toInt x10) = 1 → 0 ≤ (Int32.toInt p2) ∧ (Int32.toInt p2) ≤ 11 := ip0
    have hI : zI MT g11 := hI
    have hJ : mJ g11 := hJ
    have k0_0 : g11 0 18 = g0 0 18 := kk0.trans k0_0
    have k0_1 : g11 0 2 = g0 0 2 := kk1.trans k0_1
    refine Ex.ite (fun c17 => ?_) (fun c17 => ?_)
    ·
      have c17 := icc_eq (m := (Int32.toInt x10)) (n := 0) rfl (by decide) c17
      exact J39 g11 L12 hI hJ k0_0 k0_1
    ·
      have c17 := icc_neq (m := (Int32.toInt x10)) (n := 0) rfl (by decide) c17
      have J32 : ∀ (v1 : Int32) (v2 : Int32) (t0 : Int32) (g : Nat → Nat → Int32) (L : Nat → Nat → Int64), (0 ≤ (Int32.toInt v1) ∧ (Int32.toInt v1) ≤ 11) → (0 ≤ (Int32.toInt v2) ∧ (Int32.toInt v2) ≤ 11) → (0 ≤ (Int32.toInt t0) ∧ (Int32.toInt t0) ≤ 1) → zI MT g → mJ g → g 0 18 = g0 0 18 → g 0 2 = g0 0 2 → Ex (fX12_reaches_p32 fu v1 v2 t0 g L) (fun (r : Int32) (g1 : Nat → Nat → Int32) (L1 : Nat → Nat → Int64) => zI MT g1 ∧ mJ g1 ∧ g1 0 18 = g0 0 18 ∧ g1 0 2 = g0 0 2 ∧ ((-1) ≤ (Int32.toInt r) ∧ (Int32.toInt r) ≤ 120)) := by
        intro v1 v2 t0 g L hb_v1 hb_v2 hb_t0 hI hJ k0_0 k0_1
        unfold fX12_reaches_p32
        refine Ex.cb (sX12_right fu hfu t0 2 g L hI hJ (by omega) (by decide)) (fun x18 g19 L20 hq22 => ?_)
        obtain ⟨hI, hJ, kk0, kk1, rb_, ip0⟩ := hq22
        have b23 : 0 ≤ (Int32.toInt x18) ∧ (Int32.toInt x18) ≤ 1 := rb_
        have ip24 : (Int32.toInt x18) = 1 → 1 ≤ (Int32.toInt t0) ∧ (Int32.toInt t0) ≤ 1 := ip0
        have hI : zI MT g19 := hI
        have hJ : mJ g19 := hJ
        have k0_0 : g19 0 18 = g0 0 18 := kk0.trans k0_0
        have k0_1 : g19 0 2 = g0 0 2 := kk1.trans k0_1
        refine Ex.ite (fun c25 => ?_) (fun c25 => ?_)
        ·
          have c25 := icc_eq (m := (Int32.toInt x18)) (n := 0) rfl (by decide) c25
          exact J39 g19 L20 hI hJ k0_0 k0_1
        ·
          have c25 := icc_neq (m := (Int32.toInt x18)) (n := 0) rfl (by decide) c25
          have lp43 : ∀ (v1 : Int32) (v2 : Int32) (v3 : Int32) (g : Nat → Nat → Int32) (L : Nat → Nat → Int64), (0 ≤ (Int32.toInt v1) ∧ (Int32.toInt v1) ≤ 11) → (0 ≤ (Int32.toInt v2) ∧ (Int32.toInt v2) ≤ 11) → (1 ≤ (Int32.toInt v3) ∧ (Int32.toInt v3) ≤ 121) → zI MT g → mJ g → g 0 18 = g0 0 18 → g 0 2 = g0 0 2 → Ex (fX12_reaches_l43 fu v1 v2 v3 g L) (fun (r : Int32) (g1 : Nat → Nat → Int32) (L1 : Nat → Nat → Int64) => zI MT g1 ∧ mJ g1 ∧ g1 0 18 = g0 0 18 ∧ g1 0 2 = g0 0 2 ∧ ((-1) ≤ (Int32.toInt r) ∧ (Int32.toInt r) ≤ 120)) := by
            intro v1 v2 v3 g L hb_v1 hb_v2 hb_v3 hI hJ k0_0 k0_1
            unfold fX12_reaches_l43
            refine Ex.loop (fun v => ((0 ≤ (Int32.toInt v1) ∧ (Int32.toInt v1) ≤ 11)) ∧ ((0 ≤ (Int32.toInt v2) ∧ (Int32.toInt v2) ≤ 11)) ∧ ((1 ≤ (Int32.toInt (v.1)) ∧ (Int32.toInt (v.1)) ≤ 121)) ∧ (zI MT (v.2.1)) ∧ (mJ (v.2.1)) ∧ ((v.2.1) 0 18 = g0 0 18) ∧ ((v.2.1) 0 2 = g0 0 2)) (fun v => 122 - (Int32.toInt (v.1))) (by omega) (by show 122 - (Int32.toInt v3) < (fu : Int); omega) ⟨hb_v1, hb_v2, hb_v3, hI, hJ, k0_0, k0_1⟩ (fun k43 v hv ih43 => ?_)
            obtain ⟨v3, g, L⟩ := v
            obtain ⟨hb_v1, hb_v2, hb_v3, hI, hJ, k0_0, k0_1⟩ := hv
            have hb_v1 : (0 ≤ (Int32.toInt v1) ∧ (Int32.toInt v1) ≤ 11) := hb_v1
            have hb_v2 : (0 ≤ (Int32.toInt v2) ∧ (Int32.toInt v2) ≤ 11) := hb_v2
            have hb_v3 : (1 ≤ (Int32.toInt v3) ∧ (Int32.toInt v3) ≤ 121) := hb_v3
            have hI : zI MT g := hI
            have hJ : mJ g := hJ
            have k0_0 : g 0 18 = g0 0 18 := k0_0
            have k0_1 : g 0 2 = g0 0 2 := k0_1
            have ih43 : ∀ v' : Int32 × (Nat → Nat → Int32) × (Nat → Nat → Int64), (((0 ≤ (Int32.toInt v1) ∧ (Int32.toInt v1) ≤ 11)) ∧ ((0 ≤ (Int32.toInt v2) ∧ (Int32.toInt v2) ≤ 11)) ∧ ((1 ≤ (Int32.toInt (v'.1)) ∧ (Int32.toInt (v'.1)) ≤ 121)) ∧ (zI MT (v'.2.1)) ∧ (mJ (v'.2.1)) ∧ ((v'.2.1) 0 18 = g0 0 18) ∧ ((v'.2.1) 0 2 = g0 0 2)) → 122 - (Int32.toInt (v'.1)) < 122 - (Int32.toInt v3) → 0 < 122 - (Int32.toInt v3) → Ex (k43 v') (fun (r : Int32) (g1 : Nat → Nat → Int32) (L1 : Nat → Nat → Int64) => zI MT g1 ∧ mJ g1 ∧ g1 0 18 = g0 0 18 ∧ g1 0 2 = g0 0 2 ∧ ((-1) ≤ (Int32.toInt r) ∧ (Int32.toInt r) ≤ 120)) := ih43
            show Ex (fX12_reaches_s43 fu v1 v2 k43 v3 g L) (fun (r : Int32) (g1 : Nat → Nat → Int32) (L1 : Nat → Nat → Int64) => zI MT g1 ∧ mJ g1 ∧ g1 0 18 = g0 0 18 ∧ g1 0 2 = g0 0 2 ∧ ((-1) ≤ (Int32.toInt r) ∧ (Int32.toInt r) ≤ 120))
            unfold fX12_reaches_s43
            refine Ex.ite (fun c26 => ?_) (fun c26 => ?_)
            ·
              have c26 := icc_lt (m := 120) (n := (Int32.toInt v3)) (by decide) rfl c26
              exact Ex.ret ⟨hI, hJ, k0_0, k0_1, (by decide)⟩
            ·
              have c26 := icc_nlt (m := 120) (n := (Int32.toInt v3)) (by decide) rfl c26
              refine Ex.cb (sX12_moreBy fu hfu v1 v3 g L hI hJ (by omega) (by omega)) (fun x27 g28 L29 hq31 => ?_)
              obtain ⟨hI, hJ, kk0, kk1⟩ := hq31
              have hI : zI MT g28 := hI
              have hJ : mJ g28 := hJ
              have k0_0 : g28 0 18 = g0 0 18 := kk0.trans k0_0
              have k0_1 : g28 0 2 = g0 0 2 := kk1.trans k0_1
              refine Ex.cb (sX12_later fu hfu g28 L29 hI hJ) (fun x32 g33 L34 hq36 => ?_)
              obtain ⟨hI, hJ, kk0, kk1⟩ := hq36
              have hI : zI MT g33 := hI
              have hJ : mJ g33 := hJ
              have k0_0 : g33 0 18 = g0 0 18 := kk0.trans k0_0
              have k0_1 : g33 0 2 = g0 0 2 := kk1.trans k0_1
              generalize z37q : ((x32 : Int32) >>> ((v2 : Int32) &&& 31) : Int32) = z37
              generalize z38q : (z37 &&& 1) = z38
              have b39 : 0 ≤ (Int32.toInt z38) ∧ (Int32.toInt z38) ≤ 1 := by rw [← z38q]; exact ic_and1 _
              refine Ex.ite (fun c40 => ?_) (fun c40 => ?_)
              ·
                have c40 := icc_eq (m := (Int32.toInt z38)) (n := 1) rfl (by decide) c40
                exact Ex.ret ⟨hI, hJ, k0_0, k0_1, (by omega)⟩
              ·
                have c40 := icc_neq (m := (Int32.toInt z38)) (n := 1) rfl (by decide) c40
                generalize z41q : (v3 + 1) = z41
                have e42 : (Int32.toInt z41) = (Int32.toInt v3) + 1 := by rw [← z41q]; exact ic_addc rfl (by decide) (by omega) (by omega)
                exact ih43 (z41, g33, L34) ⟨(show (0 ≤ (Int32.toInt v1) ∧ (Int32.toInt v1) ≤ 11) from by omega), (show (0 ≤ (Int32.toInt v2) ∧ (Int32.toInt v2) ≤ 11) from by omega), (show (1 ≤ (Int32.toInt z41) ∧ (Int32.toInt z41) ≤ 121) from by omega), hI, hJ, k0_0, k0_1⟩ (by show 122 - (Int32.toInt z41) < _; omega) (by omega)
          exact lp43 v1 v2 1 g19 L20 (by omega) (by omega) (by decide) hI hJ k0_0 k0_1
      refine Ex.ite (fun c43 => ?_) (fun c43 => ?_)
      ·
        have c43 := icc_eq (m := (Int32.toInt p1)) (n := (Int32.toInt p2)) rfl rfl c43
        exact J32 p1 p2 0 g11 L12 (by omega) (by omega) (by decide) hI hJ k0_0 k0_1
      ·
        have c43 := icc_neq (m := (Int32.toInt p1)) (n := (Int32.toInt p2)) rfl rfl c43
        exact J32 p1 p2 1 g11 L12 (by omega) (by omega) (by decide) hI hJ k0_0 k0_1
set_option maxHeartbeats 4000000 in
set_option maxRecDepth 100000 in
theorem sX12_slack (fu : Nat) (hfu : 1180591620717411303424 ≤ fu) (p1 : Int32) (g0 : Nat → Nat → Int32) (L0 : Nat → Nat → Int64) (hI : zI MT g0) (hJ : mJ g0) : Ex (fX12_slack fu p1 g0 L0) (fun (r : Int32) (g1 : Nat → Nat → Int32) (L1 : Nat → Nat → Int64) => zI MT g1 ∧ mJ g1 ∧ g1 0 18 = g0 0 18 ∧ g1 0 2 = g0 0 2 ∧ (0 ≤ (Int32.toInt r) ∧ (Int32.toInt r) ≤ 120)) := by
  have k0_0 : g0 0 18 = g0 0 18 := rfl
  have k0_1 : g0 0 2 = g0 0 2 := rfl
  unfold fX12_slack
  refine Ex.sti (hI.updN rfl) (fun g1 g1e hI => ?_)
  have k0_0 : g1 0 18 = g0 0 18 := by rw [g1e]; exact k0_0
  have k0_1 : g1 0 2 = g0 0 2 := by rw [g1e]; exact k0_1
  have hJ : mJ g1 := by rw [g1e]; exact mJ.upd hJ rfl
  refine Ex.cb (sX12_isLesson fu hfu p1 g1 L0 hI hJ) (fun x2 g3 L4 hq6 => ?_)
  obtain ⟨hI, hJ, kk0, kk1, rb_, ip0⟩ := hq6
  have b7 : 0 ≤ (Int32.toInt x2) ∧ (Int32.toInt x2) ≤ 1 := rb_
  have ip8 : (Int32.toInt x2) = 1 → 0 ≤ (Int32.toInt p1) ∧ (Int32.toInt p1) ≤ 11 := ip0
  have hI : zI MT g3 := hI
  have hJ : mJ g3 := hJ
  have k0_0 : g3 0 18 = g0 0 18 := kk0.trans k0_0
  have k0_1 : g3 0 2 = g0 0 2 := kk1.trans k0_1
  refine Ex.ite (fun c9 => ?_) (fun c9 => ?_)
  ·
    have c9 := icc_eq (m := (Int32.toInt x2)) (n := 0) rfl (by decide) c9
    exact Ex.ret ⟨hI, hJ, k0_0, k0_1, (by decide)⟩
  ·
    have c9 := icc_neq (m := (Int32.toInt x2)) (n := 0) rfl (by decide) c9
    have lp18 : ∀ (v1 : Int32) (v2 : Int32) (g : Nat → Nat → Int32) (L : Nat → Nat → Int64), (0 ≤ (Int32.toInt v1) ∧ (Int32.toInt v1) ≤ 11) → (0 ≤ (Int32.toInt v2) ∧ (Int32.toInt v2) ≤ 120) → zI MT g → mJ g → g 0 18 = g0 0 18 → g 0 2 = g0 0 2 → Ex (fX12_slack_l18 fu v1 v2 g L) (fun (r : Int32) (g1 : Nat → Nat → Int32) (L1 : Nat → Nat → Int64) => zI MT g1 ∧ mJ g1 ∧ g1 0 18 = g0 0 18 ∧ g1 0 2 = g0 0 2 ∧ (0 ≤ (Int32.toInt r) ∧ (Int32.toInt r) ≤ 120)) := by
      intro v1 v2 g L hb_v1 hb_v2 hI hJ k0_0 k0_1
      unfold fX12_slack_l18
      refine Ex.loop (fun v => ((0 ≤ (Int32.toInt v1) ∧ (Int32.toInt v1) ≤ 11)) ∧ ((0 ≤ (Int32.toInt (v.1)) ∧ (Int32.toInt (v.1)) ≤ 120)) ∧ (zI MT (v.2.1)) ∧ (mJ (v.2.1)) ∧ ((v.2.1) 0 18 = g0 0 18) ∧ ((v.2.1) 0 2 = g0 0 2)) (fun v => (Int32.toInt (v.1)) - (-1)) (by omega) (by show (Int32.toInt v2) - (-1) < (fu : Int); omega) ⟨hb_v1, hb_v2, hI, hJ, k0_0, k0_1⟩ (fun k18 v hv ih18 => ?_)
      obtain ⟨v2, g, L⟩ := v
      obtain ⟨hb_v1, hb_v2, hI, hJ, k0_0, k0_1⟩ := hv
      have hb_v1 : (0 ≤ (Int32.toInt v1) ∧ (Int32.toInt v1) ≤ 11) := hb_v1
      have hb_v2 : (0 ≤ (Int32.toInt v2) ∧ (Int32.toInt v2) ≤ 120) := hb_v2
      have hI : zI MT g := hI
      have hJ : mJ g := hJ
      have k0_0 : g 0 18 = g0 0 18 := k0_0
      have k0_1 : g 0 2 = g0 0 2 := k0_1
      have ih18 : ∀ v' : Int32 × (Nat → Nat → Int32) × (Nat → Nat → Int64), (((0 ≤ (Int32.toInt v1) ∧ (Int32.toInt v1) ≤ 11)) ∧ ((0 ≤ (Int32.toInt (v'.1)) ∧ (Int32.toInt (v'.1)) ≤ 120)) ∧ (zI MT (v'.2.1)) ∧ (mJ (v'.2.1)) ∧ ((v'.2.1) 0 18 = g0 0 18) ∧ ((v'.2.1) 0 2 = g0 0 2)) → (Int32.toInt (v'.1)) - (-1) < (Int32.toInt v2) - (-1) → 0 < (Int32.toInt v2) - (-1) → Ex (k18 v') (fun (r : Int32) (g1 : Nat → Nat → Int32) (L1 : Nat → Nat → Int64) => zI MT g1 ∧ mJ g1 ∧ g1 0 18 = g0 0 18 ∧ g1 0 2 = g0 0 2 ∧ (0 ≤ (Int32.toInt r) ∧ (Int32.toInt r) ≤ 120)) := ih18
      show Ex (fX12_slack_s18 fu v1 k18 v2 g L) (fun (r : Int32) (g1 : Nat → Nat → Int32) (L1 : Nat → Nat → Int64) => zI MT g1 ∧ mJ g1 ∧ g1 0 18 = g0 0 18 ∧ g1 0 2 = g0 0 2 ∧ (0 ≤ (Int32.toInt r) ∧ (Int32.toInt r) ≤ 120))
      unfold fX12_slack_s18
      refine Ex.ite (fun c10 => ?_) (fun c10 => ?_)
      ·
        have c10 := icc_le (m := (Int32.toInt v2)) (n := 0) rfl (by decide) c10
        exact Ex.ret ⟨hI, hJ, k0_0, k0_1, (by decide)⟩
      ·
        have c10 := icc_nle (m := (Int32.toInt v2)) (n := 0) rfl (by decide) c10
        refine Ex.cb (sX12_moreBy fu hfu v1 v2 g L hI hJ (by omega) (by omega)) (fun x11 g12 L13 hq15 => ?_)
        obtain ⟨hI, hJ, kk0, kk1⟩ := hq15
        have hI : zI MT g12 := hI
        have hJ : mJ g12 := hJ
        have k0_0 : g12 0 18 = g0 0 18 := kk0.trans k0_0
        have k0_1 : g12 0 2 = g0 0 2 := kk1.trans k0_1
        refine Ex.cb (sX12_later fu hfu g12 L13 hI hJ) (fun x16 g17 L18 hq20 => ?_)
        obtain ⟨hI, hJ, kk0, kk1⟩ := hq20
        have hI : zI MT g17 := hI
        have hJ : mJ g17 := hJ
        have k0_0 : g17 0 18 = g0 0 18 := kk0.trans k0_0
        have k0_1 : g17 0 2 = g0 0 2 := kk1.trans k0_1
        generalize z21q : ((1 : Int32) <<< ((v1 : Int32) &&& 31) : Int32) = z21
        generalize z22q : (z21 ^^^ (-1)) = z22
        generalize z23q : (x16 &&& z22) = z23
        refine Ex.ite (fun c24 => ?_) (fun c24 => ?_)
        ·
          have c24 := icc_eq (m := (Int32.toInt z23)) (n := 0) rfl (by decide) c24
          exact Ex.ret ⟨hI, hJ, k0_0, k0_1, (by omega)⟩
        ·
          have c24 := icc_neq (m := (Int32.toInt z23)) (n := 0) rfl (by decide) c24
          generalize z25q : (v2 + (-1)) = z25
          have e26 : (Int32.toInt z25) = (Int32.toInt v2) + (-1) := by rw [← z25q]; exact ic_addc rfl (by decide) (by omega) (by omega)
          exact ih18 (z25, g17, L18) ⟨(show (0 ≤ (Int32.toInt v1) ∧ (Int32.toInt v1) ≤ 11) from by omega), (show (0 ≤ (Int32.toInt z25) ∧ (Int32.toInt z25) ≤ 120) from by omega), hI, hJ, k0_0, k0_1⟩ (by show (Int32.toInt z25) - (-1) < _; omega) (by omega)
    exact lp18 p1 120 g3 L4 (by omega) (by decide) hI hJ k0_0 k0_1
set_option maxHeartbeats 4000000 in
set_option maxRecDepth 100000 in
theorem sX12_asks (fu : Nat) (hfu : 1180591620717411303424 ≤ fu) (g0 : Nat → Nat → Int32) (L0 : Nat → Nat → Int64) (hI : zI MT g0) (hJ : mJ g0) : Ex (fX12_asks fu g0 L0) (fun (r : Unit) (g1 : Nat → Nat → Int32) (L1 : Nat → Nat → Int64) => zI MT g1 ∧ mJ g1 ∧ g1 0 18 = g0 0 18 ∧ g1 0 2 = g0 0 2) := by
  have k0_0 : g0 0 18 = g0 0 18 := rfl
  have k0_1 : g0 0 2 = g0 0 2 := rfl
  unfold fX12_asks
  refine Ex.sti (hI.upd rfl (by decide) (by decide)) (fun g1 g1e hI => ?_)
  have k0_0 : g1 0 18 = g0 0 18 := by rw [g1e]; exact k0_0
  have k0_1 : g1 0 2 = g0 0 2 := by rw [g1e]; exact k0_1
  have hJ : mJ g1 := by rw [g1e]; exact mJ.upd hJ rfl
  have w2 : (Int32.toInt (g1 0 70)) = 0 := by rw [g1e, upd2_at]; decide
  refine Ex.sti (hI.updN rfl) (fun g3 g3e hI => ?_)
  have w4 : (Int32.toInt (g3 0 70)) = (Int32.toInt (g1 0 70)) := by rw [g3e]; rfl
  have k0_0 : g3 0 18 = g0 0 18 := by rw [g3e]; exact k0_0
  have k0_1 : g3 0 2 = g0 0 2 := by rw [g3e]; exact k0_1
  have hJ : mJ g3 := by rw [g3e]; exact mJ.upd hJ rfl
  have lp12 : ∀ (v1 : Int32) (g : Nat → Nat → Int32) (L : Nat → Nat → Int64), (0 ≤ (Int32.toInt v1) ∧ (Int32.toInt v1) ≤ 12) → (0 ≤ (Int32.toInt (g 0 70)) ∧ (Int32.toInt (g 0 70)) ≤ 8) → zI MT g → mJ g → g 0 18 = g0 0 18 → g 0 2 = g0 0 2 → Ex (fX12_asks_l12 fu v1 g L) (fun (r : Unit) (g1 : Nat → Nat → Int32) (L1 : Nat → Nat → Int64) => zI MT g1 ∧ mJ g1 ∧ g1 0 18 = g0 0 18 ∧ g1 0 2 = g0 0 2) := by
    intro v1 g L hb_v1 hw_0_70 hI hJ k0_0 k0_1
    unfold fX12_asks_l12
    refine Ex.loop (fun v => ((0 ≤ (Int32.toInt (v.1)) ∧ (Int32.toInt (v.1)) ≤ 12)) ∧ ((0 ≤ (Int32.toInt ((v.2.1) 0 70)) ∧ (Int32.toInt ((v.2.1) 0 70)) ≤ 8)) ∧ (zI MT (v.2.1)) ∧ (mJ (v.2.1)) ∧ ((v.2.1) 0 18 = g0 0 18) ∧ ((v.2.1) 0 2 = g0 0 2)) (fun v => 13 - (Int32.toInt (v.1))) (by omega) (by show 13 - (Int32.toInt v1) < (fu : Int); omega) ⟨hb_v1, hw_0_70, hI, hJ, k0_0, k0_1⟩ (fun k12 v hv ih12 => ?_)
    obtain ⟨v1, g, L⟩ := v
    obtain ⟨hb_v1, hw_0_70, hI, hJ, k0_0, k0_1⟩ := hv
    have hb_v1 : (0 ≤ (Int32.toInt v1) ∧ (Int32.toInt v1) ≤ 12) := hb_v1
    have hw_0_70 : (0 ≤ (Int32.toInt (g 0 70)) ∧ (Int32.toInt (g 0 70)) ≤ 8) := hw_0_70
    have hI : zI MT g := hI
    have hJ : mJ g := hJ
    have k0_0 : g 0 18 = g0 0 18 := k0_0
    have k0_1 : g 0 2 = g0 0 2 := k0_1
    have ih12 : ∀ v' : Int32 × (Nat → Nat → Int32) × (Nat → Nat → Int64), (((0 ≤ (Int32.toInt (v'.1)) ∧ (Int32.toInt (v'.1)) ≤ 12)) ∧ ((0 ≤ (Int32.toInt ((v'.2.1) 0 70)) ∧ (Int32.toInt ((v'.2.1) 0 70)) ≤ 8)) ∧ (zI MT (v'.2.1)) ∧ (mJ (v'.2.1)) ∧ ((v'.2.1) 0 18 = g0 0 18) ∧ ((v'.2.1) 0 2 = g0 0 2)) → 13 - (Int32.toInt (v'.1)) < 13 - (Int32.toInt v1) → 0 < 13 - (Int32.toInt v1) → Ex (k12 v') (fun (r : Unit) (g1 : Nat → Nat → Int32) (L1 : Nat → Nat → Int64) => zI MT g1 ∧ mJ g1 ∧ g1 0 18 = g0 0 18 ∧ g1 0 2 = g0 0 2) := ih12
    show Ex (fX12_asks_s12 fu k12 v1 g L) (fun (r : Unit) (g1 : Nat → Nat → Int32) (L1 : Nat → Nat → Int64) => zI MT g1 ∧ mJ g1 ∧ g1 0 18 = g0 0 18 ∧ g1 0 2 = g0 0 2)
    unfold fX12_asks_s12
    have b5 : 0 ≤ (Int32.toInt (g 0 1)) ∧ (Int32.toInt (g 0 1)) ≤ 12 := hI 0 1 0 12 rfl
    refine Ex.ite (fun c6 => ?_) (fun c6 => ?_)
    ·
      have c6 := icc_le (m := (Int32.toInt (g 0 1))) (n := (Int32.toInt v1)) rfl rfl c6
      exact Ex.ret ⟨hI, hJ, k0_0, k0_1⟩
    ·
      have c6 := icc_nle (m := (Int32.toInt (g 0 1))) (n := (Int32.toInt v1)) rfl rfl c6
      refine Ex.ck (by omega) (by omega) ?_
      have J41 : ∀ (g : Nat → Nat → Int32) (L : Nat → Nat → Int64), (0 ≤ (Int32.toInt v1) ∧ (Int32.toInt v1) ≤ 11) → (0 ≤ (Int32.toInt (g 0 70)) ∧ (Int32.toInt (g 0 70)) ≤ 8) → zI MT g → mJ g → g 0 18 = g0 0 18 → g 0 2 = g0 0 2 → Ex (fX12_asks_p41 fu k12 v1 g L) (fun (r : Unit) (g1 : Nat → Nat → Int32) (L1 : Nat → Nat → Int64) => zI MT g1 ∧ mJ g1 ∧ g1 0 18 = g0 0 18 ∧ g1 0 2 = g0 0 2) := by
        intro g L hb_v1 hw_0_70 hI hJ k0_0 k0_1
        unfold fX12_asks_p41
        refine Ex.ck (by omega) (by omega) ?_
        refine Ex.cb (sX12_within fu hfu (g 7 (Int32.toNatClampNeg v1)) 1 9 g L hI hJ) (fun x7 g8 L9 hq11 => ?_)
        obtain ⟨hI, hJ, kk0, kk1, kk2, kk3, kk4, rb_, ip0⟩ := hq11
        have b12 : 0 ≤ (Int32.toInt x7) ∧ (Int32.toInt x7) ≤ 1 := rb_
        have ip13 : (Int32.toInt x7) = 1 → 1 ≤ (Int32.toInt (g 7 (Int32.toNatClampNeg v1))) ∧ (Int32.toInt (g 7 (Int32.toNatClampNeg v1))) ≤ 9 := ip0
        have hI : zI MT g8 := hI
        have hJ : mJ g8 := hJ
        have w14 : (Int32.toInt (g8 0 70)) = (Int32.toInt (g 0 70)) := congrArg Int32.toInt kk0
        have k0_0 : g8 0 18 = g0 0 18 := kk3.trans k0_0
        have k0_1 : g8 0 2 = g0 0 2 := kk4.trans k0_1
        have J88 : ∀ (g : Nat → Nat → Int32) (L : Nat → Nat → Int64), (0 ≤ (Int32.toInt v1) ∧ (Int32.toInt v1) ≤ 11) → (0 ≤ (Int32.toInt (g 0 70)) ∧ (Int32.toInt (g 0 70)) ≤ 8) → zI MT g → mJ g → g 0 18 = g0 0 18 → g 0 2 = g0 0 2 → Ex (fX12_asks_p88 fu k12 v1 g L) (fun (r : Unit) (g1 : Nat → Nat → Int32) (L1 : Nat → Nat → Int64) => zI MT g1 ∧ mJ g1 ∧ g1 0 18 = g0 0 18 ∧ g1 0 2 = g0 0 2) := by
          intro g L hb_v1 hw_0_70 hI hJ k0_0 k0_1
          unfold fX12_asks_p88
          generalize z15q : (v1 + 1) = z15
          have e16 : (Int32.toInt z15) = (Int32.toInt v1) + 1 := by rw [← z15q]; exact ic_addc rfl (by decide) (by omega) (by omega)
          exact ih12 (z15, g, L) ⟨(show (0 ≤ (Int32.toInt z15) ∧ (Int32.toInt z15) ≤ 12) from by omega), (show (0 ≤ (Int32.toInt (g 0 70)) ∧ (Int32.toInt (g 0 70)) ≤ 8) from by omega), hI, hJ, k0_0, k0_1⟩ (by show 13 - (Int32.toInt z15) < _; omega) (by omega)
        refine Ex.ite (fun c17 => ?_) (fun c17 => ?_)
        ·
          have c17 := icc_eq (m := (Int32.toInt x7)) (n := 0) rfl (by decide) c17
          exact J88 g8 L9 (by omega) (by omega) hI hJ k0_0 k0_1
        ·
          have c17 := icc_neq (m := (Int32.toInt x7)) (n := 0) rfl (by decide) c17
          have b18 : 0 ≤ (Int32.toInt (g8 0 70)) ∧ (Int32.toInt (g8 0 70)) ≤ 8 := hI 0 70 0 8 rfl
          refine Ex.ite (fun c19 => ?_) (fun c19 => ?_)
          ·
            have c19 := icc_eq (m := (Int32.toInt (g8 0 70))) (n := 8) rfl (by decide) c19
            exact J88 g8 L9 (by omega) (by omega) hI hJ k0_0 k0_1
          ·
            have c19 := icc_neq (m := (Int32.toInt (g8 0 70))) (n := 8) rfl (by decide) c19
            refine Ex.ck (by omega) (by omega) ?_
            refine Ex.sti (hI.upd rfl (by omega) (by omega)) (fun g20 g20e hI => ?_)
            have w21 : (Int32.toInt (g20 0 70)) = (Int32.toInt (g8 0 70)) := by rw [g20e]; rfl
            have k0_0 : g20 0 18 = g0 0 18 := by rw [g20e]; exact k0_0
            have k0_1 : g20 0 2 = g0 0 2 := by rw [g20e]; exact k0_1
            have hJ : mJ g20 := by rw [g20e]; exact mJ.upd hJ rfl
            have b22 : 0 ≤ (Int32.toInt (g20 0 70)) ∧ (Int32.toInt (g20 0 70)) ≤ 8 := hI 0 70 0 8 rfl
            generalize z23q : ((g20 0 70) + 1) = z23
            have e24 : (Int32.toInt z23) = (Int32.toInt (g20 0 70)) + 1 := by rw [← z23q]; exact ic_addc rfl (by decide) (by omega) (by omega)
            refine Ex.sti (hI.upd rfl (by omega) (by omega)) (fun g25 g25e hI => ?_)
            have k0_0 : g25 0 18 = g0 0 18 := by rw [g25e]; exact k0_0
            have k0_1 : g25 0 2 = g0 0 2 := by rw [g25e]; exact k0_1
            have hJ : mJ g25 := by rw [g25e]; exact mJ.upd hJ rfl
            have w26 : (Int32.toInt (g25 0 70)) = (Int32.toInt z23) := by rw [g25e, upd2_at]
            exact J88 g25 L9 (by omega) (by omega) hI hJ k0_0 k0_1
      refine Ex.ite (fun c27 => ?_) (fun c27 => ?_)
      ·
        have c27 := icc_eq (m := (Int32.toInt (g 7 (Int32.toNatClampNeg v1)))) (n := 0) rfl (by decide) c27
        generalize z28q : ((1 : Int32) <<< ((v1 : Int32) &&& 31) : Int32) = z28
        generalize z29q : ((g 0 71) ||| z28) = z29
        refine Ex.sti (hI.updN rfl) (fun g30 g30e hI => ?_)
        have w31 : (Int32.toInt (g30 0 70)) = (Int32.toInt (g 0 70)) := by rw [g30e]; rfl
        have k0_0 : g30 0 18 = g0 0 18 := by rw [g30e]; exact k0_0
        have k0_1 : g30 0 2 = g0 0 2 := by rw [g30e]; exact k0_1
        have hJ : mJ g30 := by rw [g30e]; exact mJ.upd hJ rfl
        exact J41 g30 L (by omega) (by omega) hI hJ k0_0 k0_1
      ·
        have c27 := icc_neq (m := (Int32.toInt (g 7 (Int32.toNatClampNeg v1)))) (n := 0) rfl (by decide) c27
        exact J41 g L (by omega) (by omega) hI hJ k0_0 k0_1
  exact lp12 0 g3 L0 (by decide) (by omega) hI hJ k0_0 k0_1
set_option maxHeartbeats 4000000 in
set_option maxRecDepth 100000 in
theorem sX12_weighs (fu : Nat) (hfu : 1180591620717411303424 ≤ fu) (p1 : Int32) (p2 : Int32) (g0 : Nat → Nat → Int32) (L0 : Nat → Nat → Int64) (hI : zI MT g0) (hJ : mJ g0) (hp1 : (0 ≤ (Int32.toInt p1) ∧ (Int32.toInt p1) ≤ 11)) : Ex (fX12_weighs fu p1 p2 g0 L0) (fun (r : Int64) (g1 : Nat → Nat → Int32) (L1 : Nat → Nat → Int64) => zI MT g1 ∧ mJ g1 ∧ g1 0 18 = g0 0 18 ∧ g1 0 2 = g0 0 2) := by
  have k0_0 : g0 0 18 = g0 0 18 := rfl
  have k0_1 : g0 0 2 = g0 0 2 := rfl
  unfold fX12_weighs
  have lp5 : ∀ (v1 : Int32) (v2 : Int32) (v3 : Int64) (v5 : Int32) (g : Nat → Nat → Int32) (L : Nat → Nat → Int64), (0 ≤ (Int32.toInt v1) ∧ (Int32.toInt v1) ≤ 11) → (0 ≤ (Int32.toInt v5) ∧ (Int32.toInt v5) ≤ 256) → zI MT g → mJ g → g 0 18 = g0 0 18 → g 0 2 = g0 0 2 → Ex (fX12_weighs_l5 fu v1 v2 v3 v5 g L) (fun (r : Int64) (g1 : Nat → Nat → Int32) (L1 : Nat → Nat → Int64) => zI MT g1 ∧ mJ g1 ∧ g1 0 18 = g0 0 18 ∧ g1 0 2 = g0 0 2) := by
    intro v1 v2 v3 v5 g L hb_v1 hb_v5 hI hJ k0_0 k0_1
    unfold fX12_weighs_l5
    refine Ex.loop (fun v => ((0 ≤ (Int32.toInt v1) ∧ (Int32.toInt v1) ≤ 11)) ∧ ((0 ≤ (Int32.toInt (v.2.1)) ∧ (Int32.toInt (v.2.1)) ≤ 256)) ∧ (zI MT (v.2.2.1)) ∧ (mJ (v.2.2.1)) ∧ ((v.2.2.1) 0 18 = g0 0 18) ∧ ((v.2.2.1) 0 2 = g0 0 2)) (fun v => 257 - (Int32.toInt (v.2.1))) (by omega) (by show 257 - (Int32.toInt v5) < (fu : Int); omega) ⟨hb_v1, hb_v5, hI, hJ, k0_0, k0_1⟩ (fun k5 v hv ih5 => ?_)
    obtain ⟨v3, v5, g, L⟩ := v
    obtain ⟨hb_v1, hb_v5, hI, hJ, k0_0, k0_1⟩ := hv
    have hb_v1 : (0 ≤ (Int32.toInt v1) ∧ (Int32.toInt v1) ≤ 11) := hb_v1
    have hb_v5 : (0 ≤ (Int32.toInt v5) ∧ (Int32.toInt v5) ≤ 256) := hb_v5
    have hI : zI MT g := hI
    have hJ : mJ g := hJ
    have k0_0 : g 0 18 = g0 0 18 := k0_0
    have k0_1 : g 0 2 = g0 0 2 := k0_1
    have ih5 : ∀ v' : Int64 × Int32 × (Nat → Nat → Int32) × (Nat → Nat → Int64), (((0 ≤ (Int32.toInt v1) ∧ (Int32.toInt v1) ≤ 11)) ∧ ((0 ≤ (Int32.toInt (v'.2.1)) ∧ (Int32.toInt (v'.2.1)) ≤ 256)) ∧ (zI MT (v'.2.2.1)) ∧ (mJ (v'.2.2.1)) ∧ ((v'.2.2.1) 0 18 = g0 0 18) ∧ ((v'.2.2.1) 0 2 = g0 0 2)) → 257 - (Int32.toInt (v'.2.1)) < 257 - (Int32.toInt v5) → 0 < 257 - (Int32.toInt v5) → Ex (k5 v') (fun (r : Int64) (g1 : Nat → Nat → Int32) (L1 : Nat → Nat → Int64) => zI MT g1 ∧ mJ g1 ∧ g1 0 18 = g0 0 18 ∧ g1 0 2 = g0 0 2) := ih5
    show Ex (fX12_weighs_s5 fu v1 v2 k5 v3 v5 g L) (fun (r : Int64) (g1 : Nat → Nat → Int32) (L1 : Nat → Nat → Int64) => zI MT g1 ∧ mJ g1 ∧ g1 0 18 = g0 0 18 ∧ g1 0 2 = g0 0 2)
    unfold fX12_weighs_s5
    have b1 : 0 ≤ (Int32.toInt (g 0 70)) ∧ (Int32.toInt (g 0 70)) ≤ 8 := hI 0 70 0 8 rfl
    generalize z2q : ((1 : Int32) <<< (((g 0 70) : Int32) &&& 31) : Int32) = z2
    have b3 : 1 ≤ (Int32.toInt z2) ∧ (Int32.toInt z2) ≤ 256 := by rw [← z2q]; exact ic_shl1 (by omega) (by omega)
    refine Ex.ite (fun c4 => ?_) (fun c4 => ?_)
    ·
      have c4 := icc_le (m := (Int32.toInt z2)) (n := (Int32.toInt v5)) rfl rfl c4
      refine Ex.sti (hI.updN rfl) (fun g5 g5e hI => ?_)
      have k0_0 : g5 0 18 = g0 0 18 := by rw [g5e]; exact k0_0
      have k0_1 : g5 0 2 = g0 0 2 := by rw [g5e]; exact k0_1
      have hJ : mJ g5 := by rw [g5e]; exact mJ.upd hJ rfl
      exact Ex.ret ⟨hI, hJ, k0_0, k0_1⟩
    ·
      have c4 := icc_nle (m := (Int32.toInt z2)) (n := (Int32.toInt v5)) rfl rfl c4
      refine Ex.sti (hI.updN rfl) (fun g6 g6e hI => ?_)
      have k0_0 : g6 0 18 = g0 0 18 := by rw [g6e]; exact k0_0
      have k0_1 : g6 0 2 = g0 0 2 := by rw [g6e]; exact k0_1
      have hJ : mJ g6 := by rw [g6e]; exact mJ.upd hJ rfl
      have lp30 : ∀ (v6 : Int64) (v8 : Int32) (g : Nat → Nat → Int32) (L : Nat → Nat → Int64), (0 ≤ (Int32.toInt v1) ∧ (Int32.toInt v1) ≤ 11) → (0 ≤ (Int32.toInt v5) ∧ (Int32.toInt v5) ≤ 255) → (0 ≤ (Int32.toInt v8) ∧ (Int32.toInt v8) ≤ 9) → zI MT g → mJ g → g 0 18 = g0 0 18 → g 0 2 = g0 0 2 → Ex (fX12_weighs_l30 fu k5 v1 v2 v3 v5 v6 v8 g L) (fun (r : Int64) (g1 : Nat → Nat → Int32) (L1 : Nat → Nat → Int64) => zI MT g1 ∧ mJ g1 ∧ g1 0 18 = g0 0 18 ∧ g1 0 2 = g0 0 2) := by
        intro v6 v8 g L hb_v1 hb_v5 hb_v8 hI hJ k0_0 k0_1
        unfold fX12_weighs_l30
        refine Ex.loop (fun v => ((0 ≤ (Int32.toInt v1) ∧ (Int32.toInt v1) ≤ 11)) ∧ ((0 ≤ (Int32.toInt v5) ∧ (Int32.toInt v5) ≤ 255)) ∧ ((0 ≤ (Int32.toInt (v.2.1)) ∧ (Int32.toInt (v.2.1)) ≤ 9)) ∧ (zI MT (v.2.2.1)) ∧ (mJ (v.2.2.1)) ∧ ((v.2.2.1) 0 18 = g0 0 18) ∧ ((v.2.2.1) 0 2 = g0 0 2)) (fun v => 10 - (Int32.toInt (v.2.1))) (by omega) (by show 10 - (Int32.toInt v8) < (fu : Int); omega) ⟨hb_v1, hb_v5, hb_v8, hI, hJ, k0_0, k0_1⟩ (fun k30 v hv ih30 => ?_)
        obtain ⟨v6, v8, g, L⟩ := v
        obtain ⟨hb_v1, hb_v5, hb_v8, hI, hJ, k0_0, k0_1⟩ := hv
        have hb_v1 : (0 ≤ (Int32.toInt v1) ∧ (Int32.toInt v1) ≤ 11) := hb_v1
        have hb_v5 : (0 ≤ (Int32.toInt v5) ∧ (Int32.toInt v5) ≤ 255) := hb_v5
        have hb_v8 : (0 ≤ (Int32.toInt v8) ∧ (Int32.toInt v8) ≤ 9) := hb_v8
        have hI : zI MT g := hI
        have hJ : mJ g := hJ
        have k0_0 : g 0 18 = g0 0 18 := k0_0
        have k0_1 : g 0 2 = g0 0 2 := k0_1
        have ih30 : ∀ v' : Int64 × Int32 × (Nat → Nat → Int32) × (Nat → Nat → Int64), (((0 ≤ (Int32.toInt v1) ∧ (Int32.toInt v1) ≤ 11)) ∧ ((0 ≤ (Int32.toInt v5) ∧ (Int32.toInt v5) ≤ 255)) ∧ ((0 ≤ (Int32.toInt (v'.2.1)) ∧ (Int32.toInt (v'.2.1)) ≤ 9)) ∧ (zI MT (v'.2.2.1)) ∧ (mJ (v'.2.2.1)) ∧ ((v'.2.2.1) 0 18 = g0 0 18) ∧ ((v'.2.2.1) 0 2 = g0 0 2)) → 10 - (Int32.toInt (v'.2.1)) < 10 - (Int32.toInt v8) → 0 < 10 - (Int32.toInt v8) → Ex (k30 v') (fun (r : Int64) (g1 : Nat → Nat → Int32) (L1 : Nat → Nat → Int64) => zI MT g1 ∧ mJ g1 ∧ g1 0 18 = g0 0 18 ∧ g1 0 2 = g0 0 2) := ih30
        show Ex (fX12_weighs_s30 fu k5 v1 v2 v3 v5 k30 v6 v8 g L) (fun (r : Int64) (g1 : Nat → Nat → Int32) (L1 : Nat → Nat → Int64) => zI MT g1 ∧ mJ g1 ∧ g1 0 18 = g0 0 18 ∧ g1 0 2 = g0 0 2)
        unfold fX12_weighs_s30
        have b7 : 0 ≤ (Int32.toInt (g 0 70)) ∧ (Int32.toInt (g 0 70)) ≤ 8 := hI 0 70 0 8 rfl
        refine Ex.ite (fun c8 => ?_) (fun c8 => ?_)
        ·
          have c8 := icc_le (m := (Int32.toInt (g 0 70))) (n := (Int32.toInt v8)) rfl rfl c8
          refine Ex.cb (sX12_works0 fu hfu g L hI hJ) (fun x9 g10 L11 hq13 => ?_)
          obtain ⟨hI, hJ, kk0, kk1⟩ := hq13
          have hI : zI MT g10 := hI
          have hJ : mJ g10 := hJ
          have k0_0 : g10 0 18 = g0 0 18 := kk0.trans k0_0
          have k0_1 : g10 0 2 = g0 0 2 := kk1.trans k0_1
          have J169 : ∀ (t0 : Int64) (t1 : Int64) (g : Nat → Nat → Int32) (L : Nat → Nat → Int64), (0 ≤ (Int32.toInt v1) ∧ (Int32.toInt v1) ≤ 11) → (0 ≤ (Int32.toInt v5) ∧ (Int32.toInt v5) ≤ 255) → zI MT g → mJ g → g 0 18 = g0 0 18 → g 0 2 = g0 0 2 → Ex (fX12_weighs_p169 fu k5 v1 v2 v5 t0 t1 g L) (fun (r : Int64) (g1 : Nat → Nat → Int32) (L1 : Nat → Nat → Int64) => zI MT g1 ∧ mJ g1 ∧ g1 0 18 = g0 0 18 ∧ g1 0 2 = g0 0 2) := by
            intro t0 t1 g L hb_v1 hb_v5 hI hJ k0_0 k0_1
            unfold fX12_weighs_p169
            refine Ex.ltl (fun y14 y14e => ?_)
            generalize z15q : (v5 + 1) = z15
            have e16 : (Int32.toInt z15) = (Int32.toInt v5) + 1 := by rw [← z15q]; exact ic_addc rfl (by decide) (by omega) (by omega)
            exact ih5 (y14, z15, g, L) ⟨(show (0 ≤ (Int32.toInt v1) ∧ (Int32.toInt v1) ≤ 11) from by omega), (show (0 ≤ (Int32.toInt z15) ∧ (Int32.toInt z15) ≤ 256) from by omega), hI, hJ, k0_0, k0_1⟩ (by show 257 - (Int32.toInt z15) < _; omega) (by omega)
          refine Ex.ite (fun c17 => ?_) (fun c17 => ?_)
          ·
            have c17 := icc_eq (m := (Int32.toInt v2)) (n := (-1)) rfl (by decide) c17
            refine Ex.cb (sX12_late fu hfu v1 g10 L11 hI hJ (by omega)) (fun x18 g19 L20 hq22 => ?_)
            obtain ⟨hI, hJ, kk0, kk1⟩ := hq22
            have hI : zI MT g19 := hI
            have hJ : mJ g19 := hJ
            have k0_0 : g19 0 18 = g0 0 18 := kk0.trans k0_0
            have k0_1 : g19 0 2 = g0 0 2 := kk1.trans k0_1
            exact J169 (v6 * (Int32.toInt64 x18)) v3 g19 L20 (by omega) (by omega) hI hJ k0_0 k0_1
          ·
            have c17 := icc_neq (m := (Int32.toInt v2)) (n := (-1)) rfl (by decide) c17
            refine Ex.cb (sX12_late fu hfu v1 g10 L11 hI hJ (by omega)) (fun x23 g24 L25 hq27 => ?_)
            obtain ⟨hI, hJ, kk0, kk1⟩ := hq27
            have hI : zI MT g24 := hI
            have hJ : mJ g24 := hJ
            have k0_0 : g24 0 18 = g0 0 18 := kk0.trans k0_0
            have k0_1 : g24 0 2 = g0 0 2 := kk1.trans k0_1
            refine Ex.ite (fun c28 => ?_) (fun c28 => ?_)
            ·
              have c28 := icc_le (m := (Int32.toInt x23)) (n := (Int32.toInt v2)) rfl rfl c28
              exact J169 0 v3 g24 L25 (by omega) (by omega) hI hJ k0_0 k0_1
            ·
              have c28 := icc_nle (m := (Int32.toInt x23)) (n := (Int32.toInt v2)) rfl rfl c28
              exact J169 v6 v3 g24 L25 (by omega) (by omega) hI hJ k0_0 k0_1
        ·
          have c8 := icc_nle (m := (Int32.toInt (g 0 70))) (n := (Int32.toInt v8)) rfl rfl c8
          generalize z29q : ((v5 : Int32) >>> ((v8 : Int32) &&& 31) : Int32) = z29
          generalize z30q : (z29 &&& 1) = z30
          have b31 : 0 ≤ (Int32.toInt z30) ∧ (Int32.toInt z30) ≤ 1 := by rw [← z30q]; exact ic_and1 _
          have J55 : ∀ (t0 : Int32) (g : Nat → Nat → Int32) (L : Nat → Nat → Int64), (0 ≤ (Int32.toInt v1) ∧ (Int32.toInt v1) ≤ 11) → (0 ≤ (Int32.toInt v5) ∧ (Int32.toInt v5) ≤ 255) → (0 ≤ (Int32.toInt v8) ∧ (Int32.toInt v8) ≤ 7) → (0 ≤ (Int32.toInt t0) ∧ (Int32.toInt t0) ≤ 1) → zI MT g → mJ g → g 0 18 = g0 0 18 → g 0 2 = g0 0 2 → Ex (fX12_weighs_p55 fu k5 k30 v1 v2 v3 v5 v6 v8 t0 g L) (fun (r : Int64) (g1 : Nat → Nat → Int32) (L1 : Nat → Nat → Int64) => zI MT g1 ∧ mJ g1 ∧ g1 0 18 = g0 0 18 ∧ g1 0 2 = g0 0 2) := by
            intro t0 g L hb_v1 hb_v5 hb_v8 hb_t0 hI hJ k0_0 k0_1
            unfold fX12_weighs_p55
            have J96 : ∀ (v9 : Int32) (t0 : Int64) (t1 : Int64) (g : Nat → Nat → Int32) (L : Nat → Nat → Int64), (0 ≤ (Int32.toInt v1) ∧ (Int32.toInt v1) ≤ 11) → (0 ≤ (Int32.toInt v5) ∧ (Int32.toInt v5) ≤ 255) → (0 ≤ (Int32.toInt v8) ∧ (Int32.toInt v8) ≤ 7) → (0 ≤ (Int32.toInt v9) ∧ (Int32.toInt v9) ≤ 1) → zI MT g → mJ g → g 0 18 = g0 0 18 → g 0 2 = g0 0 2 → Ex (fX12_weighs_p96 fu k5 k30 v1 v2 v3 v5 v8 v9 t0 t1 g L) (fun (r : Int64) (g1 : Nat → Nat → Int32) (L1 : Nat → Nat → Int64) => zI MT g1 ∧ mJ g1 ∧ g1 0 18 = g0 0 18 ∧ g1 0 2 = g0 0 2) := by
              intro v9 t0 t1 g L hb_v1 hb_v5 hb_v8 hb_v9 hI hJ k0_0 k0_1
              unfold fX12_weighs_p96
              refine Ex.ltl (fun y32 y32e => ?_)
              have J122 : ∀ (v6 : Int64) (t0 : Int32) (t1 : Int32) (g : Nat → Nat → Int32) (L : Nat → Nat → Int64), (0 ≤ (Int32.toInt v1) ∧ (Int32.toInt v1) ≤ 11) → (0 ≤ (Int32.toInt v5) ∧ (Int32.toInt v5) ≤ 255) → (0 ≤ (Int32.toInt v8) ∧ (Int32.toInt v8) ≤ 8) → zI MT g → mJ g → g 0 18 = g0 0 18 → g 0 2 = g0 0 2 → Ex (fX12_weighs_p122 fu k5 k30 v1 v2 v3 v5 v6 v8 t0 t1 g L) (fun (r : Int64) (g1 : Nat → Nat → Int32) (L1 : Nat → Nat → Int64) => zI MT g1 ∧ mJ g1 ∧ g1 0 18 = g0 0 18 ∧ g1 0 2 = g0 0 2) := by
                intro v6 t0 t1 g L hb_v1 hb_v5 hb_v8 hI hJ k0_0 k0_1
                unfold fX12_weighs_p122
                generalize z33q : (t1 ||| t0) = z33
                refine Ex.sti (hI.updN rfl) (fun g34 g34e hI => ?_)
                have k0_0 : g34 0 18 = g0 0 18 := by rw [g34e]; exact k0_0
                have k0_1 : g34 0 2 = g0 0 2 := by rw [g34e]; exact k0_1
                have hJ : mJ g34 := by rw [g34e]; exact mJ.upd hJ rfl
                generalize z35q : (v8 + 1) = z35
                have e36 : (Int32.toInt z35) = (Int32.toInt v8) + 1 := by rw [← z35q]; exact ic_addc rfl (by decide) (by omega) (by omega)
                exact ih30 (v6, z35, g34, L) ⟨(show (0 ≤ (Int32.toInt v1) ∧ (Int32.toInt v1) ≤ 11) from by omega), (show (0 ≤ (Int32.toInt v5) ∧ (Int32.toInt v5) ≤ 255) from by omega), (show (0 ≤ (Int32.toInt z35) ∧ (Int32.toInt z35) ≤ 9) from by omega), hI, hJ, k0_0, k0_1⟩ (by show 10 - (Int32.toInt z35) < _; omega) (by omega)
              refine Ex.ite (fun c37 => ?_) (fun c37 => ?_)
              ·
                have c37 := icc_eq (m := (Int32.toInt v9)) (n := 0) rfl (by decide) c37
                refine Ex.ck (by omega) (by omega) ?_
                have b38 : 0 ≤ (Int32.toInt (g 41 (Int32.toNatClampNeg v8))) ∧ (Int32.toInt (g 41 (Int32.toNatClampNeg v8))) ≤ 11 := hI 41 _ 0 11 rfl
                generalize z39q : ((1 : Int32) <<< (((g 41 (Int32.toNatClampNeg v8)) : Int32) &&& 31) : Int32) = z39
                exact J122 y32 z39 (g 0 60) g L (by omega) (by omega) (by omega) hI hJ k0_0 k0_1
              ·
                have c37 := icc_neq (m := (Int32.toInt v9)) (n := 0) rfl (by decide) c37
                exact J122 y32 0 (g 0 60) g L (by omega) (by omega) (by omega) hI hJ k0_0 k0_1
            refine Ex.ite (fun c40 => ?_) (fun c40 => ?_)
            ·
              have c40 := icc_eq (m := (Int32.toInt t0)) (n := 0) rfl (by decide) c40
              refine Ex.ck (by omega) (by omega) ?_
              have b41 : 0 ≤ (Int32.toInt (g 41 (Int32.toNatClampNeg v8))) ∧ (Int32.toInt (g 41 (Int32.toNatClampNeg v8))) ≤ 11 := hI 41 _ 0 11 rfl
              refine Ex.ck (by omega) (by omega) ?_
              generalize z42q : (10 - (g 7 (Int32.toNatClampNeg (g 41 (Int32.toNatClampNeg v8))))) = z42
              exact J96 t0 (Int32.toInt64 z42) v6 g L (by omega) (by omega) (by omega) (by omega) hI hJ k0_0 k0_1
            ·
              have c40 := icc_neq (m := (Int32.toInt t0)) (n := 0) rfl (by decide) c40
              refine Ex.ck (by omega) (by omega) ?_
              have b43 : 0 ≤ (Int32.toInt (g 41 (Int32.toNatClampNeg v8))) ∧ (Int32.toInt (g 41 (Int32.toNatClampNeg v8))) ≤ 11 := hI 41 _ 0 11 rfl
              refine Ex.ck (by omega) (by omega) ?_
              exact J96 t0 (Int32.toInt64 (g 7 (Int32.toNatClampNeg (g 41 (Int32.toNatClampNeg v8))))) v6 g L (by omega) (by omega) (by omega) (by omega) hI hJ k0_0 k0_1
          refine Ex.ite (fun c44 => ?_) (fun c44 => ?_)
          ·
            have c44 := icc_eq (m := (Int32.toInt z30)) (n := 1) rfl (by decide) c44
            exact J55 1 g L (by omega) (by omega) (by omega) (by decide) hI hJ k0_0 k0_1
          ·
            have c44 := icc_neq (m := (Int32.toInt z30)) (n := 1) rfl (by decide) c44
            exact J55 0 g L (by omega) (by omega) (by omega) (by decide) hI hJ k0_0 k0_1
      exact lp30 1 0 g6 L (by omega) (by omega) (by decide) hI hJ k0_0 k0_1
  exact lp5 p1 p2 0 0 g0 L0 (by omega) (by decide) hI hJ k0_0 k0_1
set_option maxHeartbeats 4000000 in
set_option maxRecDepth 100000 in
theorem sX12_swaps (fu : Nat) (hfu : 1180591620717411303424 ≤ fu) (p1 : Int32) (p2 : Int32) (g0 : Nat → Nat → Int32) (L0 : Nat → Nat → Int64) (hI : zI MT g0) (hJ : mJ g0) (hp1 : (0 ≤ (Int32.toInt p1) ∧ (Int32.toInt p1) ≤ 11)) (hp2 : (0 ≤ (Int32.toInt p2) ∧ (Int32.toInt p2) ≤ 11)) : Ex (fX12_swaps fu p1 p2 g0 L0) (fun (r : Unit) (g1 : Nat → Nat → Int32) (L1 : Nat → Nat → Int64) => zI MT g1 ∧ mJ g1 ∧ g1 0 18 = g0 0 18 ∧ g1 0 2 = g0 0 2) := by
  have k0_0 : g0 0 18 = g0 0 18 := rfl
  have k0_1 : g0 0 2 = g0 0 2 := rfl
  unfold fX12_swaps
  generalize z1q : (0 + p1) = z1
  have e2 : (Int32.toInt z1) = 0 + (Int32.toInt p1) := by rw [← z1q]; exact ic_addc (by decide) rfl (by omega) (by omega)
  refine Ex.ck (by omega) (by omega) ?_
  refine Ex.lti (fun x3 x3e x3i => ?_)
  have e4 : (Int32.toInt z1) = 0 + (Int32.toInt p1) := by rw [← z1q]; exact ic_addc (by decide) rfl (by omega) (by omega)
  generalize z5q : (0 + p2) = z5
  have e6 : (Int32.toInt z5) = 0 + (Int32.toInt p2) := by rw [← z5q]; exact ic_addc (by decide) rfl (by omega) (by omega)
  refine Ex.ck (by omega) (by omega) ?_
  refine Ex.ck (by omega) (by omega) ?_
  refine Ex.sti (hI.updN rfl) (fun g7 g7e hI => ?_)
  have k0_0 : g7 0 18 = g0 0 18 := by rw [g7e]; exact k0_0
  have k0_1 : g7 0 2 = g0 0 2 := by rw [g7e]; exact k0_1
  have hJ : mJ g7 := by rw [g7e]; exact mJ.upd hJ rfl
  have e8 : (Int32.toInt z5) = 0 + (Int32.toInt p2) := by rw [← z5q]; exact ic_addc (by decide) rfl (by omega) (by omega)
  refine Ex.ck (by omega) (by omega) ?_
  refine Ex.sti (hI.updN rfl) (fun g9 g9e hI => ?_)
  have k0_0 : g9 0 18 = g0 0 18 := by rw [g9e]; exact k0_0
  have k0_1 : g9 0 2 = g0 0 2 := by rw [g9e]; exact k0_1
  have hJ : mJ g9 := by rw [g9e]; exact mJ.upd hJ rfl
  exact Ex.ret ⟨hI, hJ, k0_0, k0_1⟩
set_option maxHeartbeats 4000000 in
set_option maxRecDepth 100000 in
theorem sX12_swap (fu : Nat) (hfu : 1180591620717411303424 ≤ fu) (p1 : Int32) (g0 : Nat → Nat → Int32) (L0 : Nat → Nat → Int64) (hI : zI MT g0) (hJ : mJ g0) : Ex (fX12_swap fu p1 g0 L0) (fun (r : Int32) (g1 : Nat → Nat → Int32) (L1 : Nat → Nat → Int64) => zI MT g1 ∧ mJ g1 ∧ g1 0 18 = g0 0 18 ∧ g1 0 2 = g0 0 2) := by
  have k0_0 : g0 0 18 = g0 0 18 := rfl
  have k0_1 : g0 0 2 = g0 0 2 := rfl
  unfold fX12_swap
  refine Ex.sti (hI.updN rfl) (fun g1 g1e hI => ?_)
  have k0_0 : g1 0 18 = g0 0 18 := by rw [g1e]; exact k0_0
  have k0_1 : g1 0 2 = g0 0 2 := by rw [g1e]; exact k0_1
  have hJ : mJ g1 := by rw [g1e]; exact mJ.upd hJ rfl
  refine Ex.cb (sX12_isWhat fu hfu p1 1 g1 L0 hI hJ) (fun x2 g3 L4 hq6 => ?_)
  obtain ⟨hI, hJ, kk0, kk1, rb_, ip0⟩ := hq6
  have b7 : 0 ≤ (Int32.toInt x2) ∧ (Int32.toInt x2) ≤ 1 := rb_
  have ip8 : (Int32.toInt x2) = 1 → 0 ≤ (Int32.toInt p1) ∧ (Int32.toInt p1) ≤ 1 := ip0
  have hI : zI MT g3 := hI
  have hJ : mJ g3 := hJ
  have k0_0 : g3 0 18 = g0 0 18 := kk0.trans k0_0
  have k0_1 : g3 0 2 = g0 0 2 := kk1.trans k0_1
  refine Ex.ite (fun c9 => ?_) (fun c9 => ?_)
  ·
    have c9 := icc_eq (m := (Int32.toInt x2)) (n := 0) rfl (by decide) c9
    exact Ex.ret ⟨hI, hJ, k0_0, k0_1⟩
  ·
    have c9 := icc_neq (m := (Int32.toInt x2)) (n := 0) rfl (by decide) c9
    refine Ex.cb (sX12_lost fu hfu g3 L4 hI hJ) (fun x10 g11 L12 hq14 => ?_)
    obtain ⟨hI, hJ, kk0, kk1⟩ := hq14
    have hI : zI MT g11 := hI
    have hJ : mJ g11 := hJ
    have k0_0 : g11 0 18 = g0 0 18 := kk0.trans k0_0
    have k0_1 : g11 0 2 = g0 0 2 := kk1.trans k0_1
    have lp26 : ∀ (v1 : Int32) (v2 : Int32) (v3 : Int32) (v4 : Int32) (g : Nat → Nat → Int32) (L : Nat → Nat → Int64), (0 ≤ (Int32.toInt v1) ∧ (Int32.toInt v1) ≤ 1) → ((-1) ≤ (Int32.toInt v2) ∧ (Int32.toInt v2) ≤ 1899) → (0 ≤ (Int32.toInt v4) ∧ (Int32.toInt v4) ≤ 12) → zI MT g → mJ g → g 0 18 = g0 0 18 → g 0 2 = g0 0 2 → Ex (fX12_swap_l26 fu v1 v2 v3 v4 g L) (fun (r : Int32) (g1 : Nat → Nat → Int32) (L1 : Nat → Nat → Int64) => zI MT g1 ∧ mJ g1 ∧ g1 0 18 = g0 0 18 ∧ g1 0 2 = g0 0 2) := by
      intro v1 v2 v3 v4 g L hb_v1 hb_v2 hb_v4 hI hJ k0_0 k0_1
      unfold fX12_swap_l26
      refine Ex.loop (fun v => ((0 ≤ (Int32.toInt v1) ∧ (Int32.toInt v1) ≤ 1)) ∧ (((-1) ≤ (Int32.toInt (v.1)) ∧ (Int32.toInt (v.1)) ≤ 1899)) ∧ ((0 ≤ (Int32.toInt (v.2.2.1)) ∧ (Int32.toInt (v.2.2.1)) ≤ 12)) ∧ (zI MT (v.2.2.2.1)) ∧ (mJ (v.2.2.2.1)) ∧ ((v.2.2.2.1) 0 18 = g0 0 18) ∧ ((v.2.2.2.1) 0 2 = g0 0 2)) (fun v => 13 - (Int32.toInt (v.2.2.1))) (by omega) (by show 13 - (Int32.toInt v4) < (fu : Int); omega) ⟨hb_v1, hb_v2, hb_v4, hI, hJ, k0_0, k0_1⟩ (fun k26 v hv ih26 => ?_)
      obtain ⟨v2, v3, v4, g, L⟩ := v
      obtain ⟨hb_v1, hb_v2, hb_v4, hI, hJ, k0_0, k0_1⟩ := hv
      have hb_v1 : (0 ≤ (Int32.toInt v1) ∧ (Int32.toInt v1) ≤ 1) := hb_v1
      have hb_v2 : ((-1) ≤ (Int32.toInt v2) ∧ (Int32.toInt v2) ≤ 1899) := hb_v2
      have hb_v4 : (0 ≤ (Int32.toInt v4) ∧ (Int32.toInt v4) ≤ 12) := hb_v4
      have hI : zI MT g := hI
      have hJ : mJ g := hJ
      have k0_0 : g 0 18 = g0 0 18 := k0_0
      have k0_1 : g 0 2 = g0 0 2 := k0_1
      have ih26 : ∀ v' : Int32 × Int32 × Int32 × (Nat → Nat → Int32) × (Nat → Nat → Int64), (((0 ≤ (Int32.toInt v1) ∧ (Int32.toInt v1) ≤ 1)) ∧ (((-1) ≤ (Int32.toInt (v'.1)) ∧ (Int32.toInt (v'.1)) ≤ 1899)) ∧ ((0 ≤ (Int32.toInt (v'.2.2.1)) ∧ (Int32.toInt (v'.2.2.1)) ≤ 12)) ∧ (zI MT (v'.2.2.2.1)) ∧ (mJ (v'.2.2.2.1)) ∧ ((v'.2.2.2.1) 0 18 = g0 0 18) ∧ ((v'.2.2.2.1) 0 2 = g0 0 2)) → 13 - (Int32.toInt (v'.2.2.1)) < 13 - (Int32.toInt v4) → 0 < 13 - (Int32.toInt v4) → Ex (k26 v') (fun (r : Int32) (g1 : Nat → Nat → Int32) (L1 : Nat → Nat → Int64) => zI MT g1 ∧ mJ g1 ∧ g1 0 18 = g0 0 18 ∧ g1 0 2 = g0 0 2) := ih26
      show Ex (fX12_swap_s26 fu v1 k26 v2 v3 v4 g L) (fun (r : Int32) (g1 : Nat → Nat → Int32) (L1 : Nat → Nat → Int64) => zI MT g1 ∧ mJ g1 ∧ g1 0 18 = g0 0 18 ∧ g1 0 2 = g0 0 2)
      unfold fX12_swap_s26
      have b15 : 0 ≤ (Int32.toInt (g 0 1)) ∧ (Int32.toInt (g 0 1)) ≤ 12 := hI 0 1 0 12 rfl
      refine Ex.ite (fun c16 => ?_) (fun c16 => ?_)
      ·
        have c16 := icc_le (m := (Int32.toInt (g 0 1))) (n := (Int32.toInt v4)) rfl rfl c16
        have J119 : ∀ (t0 : Int32) (g : Nat → Nat → Int32) (L : Nat → Nat → Int64), zI MT g → mJ g → g 0 18 = g0 0 18 → g 0 2 = g0 0 2 → Ex (fX12_swap_p119 fu t0 g L) (fun (r : Int32) (g1 : Nat → Nat → Int32) (L1 : Nat → Nat → Int64) => zI MT g1 ∧ mJ g1 ∧ g1 0 18 = g0 0 18 ∧ g1 0 2 = g0 0 2) := by
          intro t0 g L hI hJ k0_0 k0_1
          unfold fX12_swap_p119
          exact Ex.ret ⟨hI, hJ, k0_0, k0_1⟩
        have J114 : ∀ (v2 : Int32) (g : Nat → Nat → Int32) (L : Nat → Nat → Int64), ((-1) ≤ (Int32.toInt v2) ∧ (Int32.toInt v2) ≤ 1899) → zI MT g → mJ g → g 0 18 = g0 0 18 → g 0 2 = g0 0 2 → Ex (fX12_swap_p114 fu v2 g L) (fun (r : Int32) (g1 : Nat → Nat → Int32) (L1 : Nat → Nat → Int64) => zI MT g1 ∧ mJ g1 ∧ g1 0 18 = g0 0 18 ∧ g1 0 2 = g0 0 2) := by
          intro v2 g L hb_v2 hI hJ k0_0 k0_1
          unfold fX12_swap_p114
          exact J119 v2 g L hI hJ k0_0 k0_1
        refine Ex.ite (fun c17 => ?_) (fun c17 => ?_)
        ·
          have c17 := icc_eq (m := (Int32.toInt v2)) (n := (-1)) rfl (by decide) c17
          exact J114 v2 g L (by omega) hI hJ k0_0 k0_1
        ·
          have c17 := icc_neq (m := (Int32.toInt v2)) (n := (-1)) rfl (by decide) c17
          refine Ex.ite (fun c18 => ?_) (fun c18 => ?_)
          ·
            have c18 := icc_eq (m := (Int32.toInt v1)) (n := 0) rfl (by decide) c18
            exact J114 v2 g L (by omega) hI hJ k0_0 k0_1
          ·
            have c18 := icc_neq (m := (Int32.toInt v1)) (n := 0) rfl (by decide) c18
            exact J119 v3 g L hI hJ k0_0 k0_1
      ·
        have c16 := icc_nle (m := (Int32.toInt (g 0 1))) (n := (Int32.toInt v4)) rfl rfl c16
        generalize z19q : (v4 + 1) = z19
        have e20 : (Int32.toInt z19) = (Int32.toInt v4) + 1 := by rw [← z19q]; exact ic_addc rfl (by decide) (by omega) (by omega)
        refine Ex.lti (fun x21 x21e x21i => ?_)
        have lp41 : ∀ (v2 : Int32) (v3 : Int32) (v5 : Int32) (g : Nat → Nat → Int32) (L : Nat → Nat → Int64), (0 ≤ (Int32.toInt v1) ∧ (Int32.toInt v1) ≤ 1) → ((-1) ≤ (Int32.toInt v2) ∧ (Int32.toInt v2) ≤ 1899) → (0 ≤ (Int32.toInt v4) ∧ (Int32.toInt v4) ≤ 11) → (1 ≤ (Int32.toInt v5) ∧ (Int32.toInt v5) ≤ 12) → zI MT g → mJ g → g 0 18 = g0 0 18 → g 0 2 = g0 0 2 → Ex (fX12_swap_l41 fu k26 v1 v4 v2 v3 v5 g L) (fun (r : Int32) (g1 : Nat → Nat → Int32) (L1 : Nat → Nat → Int64) => zI MT g1 ∧ mJ g1 ∧ g1 0 18 = g0 0 18 ∧ g1 0 2 = g0 0 2) := by
          intro v2 v3 v5 g L hb_v1 hb_v2 hb_v4 hb_v5 hI hJ k0_0 k0_1
          unfold fX12_swap_l41
          refine Ex.loop (fun v => ((0 ≤ (Int32.toInt v1) ∧ (Int32.toInt v1) ≤ 1)) ∧ (((-1) ≤ (Int32.toInt (v.1)) ∧ (Int32.toInt (v.1)) ≤ 1899)) ∧ ((0 ≤ (Int32.toInt v4) ∧ (Int32.toInt v4) ≤ 11)) ∧ ((1 ≤ (Int32.toInt (v.2.2.1)) ∧ (Int32.toInt (v.2.2.1)) ≤ 12)) ∧ (zI MT (v.2.2.2.1)) ∧ (mJ (v.2.2.2.1)) ∧ ((v.2.2.2.1) 0 18 = g0 0 18) ∧ ((v.2.2.2.1) 0 2 = g0 0 2)) (fun v => 13 - (Int32.toInt (v.2.2.1))) (by omega) (by show 13 - (Int32.toInt v5) < (fu : Int); omega) ⟨hb_v1, hb_v2, hb_v4, hb_v5, hI, hJ, k0_0, k0_1⟩ (fun k41 v hv ih41 => ?_)
          obtain ⟨v2, v3, v5, g, L⟩ := v
          obtain ⟨hb_v1, hb_v2, hb_v4, hb_v5, hI, hJ, k0_0, k0_1⟩ := hv
          have hb_v1 : (0 ≤ (Int32.toInt v1) ∧ (Int32.toInt v1) ≤ 1) := hb_v1
          have hb_v2 : ((-1) ≤ (Int32.toInt v2) ∧ (Int32.toInt v2) ≤ 1899) := hb_v2
          have hb_v4 : (0 ≤ (Int32.toInt v4) ∧ (Int32.toInt v4) ≤ 11) := hb_v4
          have hb_v5 : (1 ≤ (Int32.toInt v5) ∧ (Int32.toInt v5) ≤ 12) := hb_v5
          have hI : zI MT g := hI
          have hJ : mJ g := hJ
          have k0_0 : g 0 18 = g0 0 18 := k0_0
          have k0_1 : g 0 2 = g0 0 2 := k0_1
          have ih41 : ∀ v' : Int32 × Int32 × Int32 × (Nat → Nat → Int32) × (Nat → Nat → Int64), (((0 ≤ (Int32.toInt v1) ∧ (Int32.toInt v1) ≤ 1)) ∧ (((-1) ≤ (Int32.toInt (v'.1)) ∧ (Int32.toInt (v'.1)) ≤ 1899)) ∧ ((0 ≤ (Int32.toInt v4) ∧ (Int32.toInt v4) ≤ 11)) ∧ ((1 ≤ (Int32.toInt (v'.2.2.1)) ∧ (Int32.toInt (v'.2.2.1)) ≤ 12)) ∧ (zI MT (v'.2.2.2.1)) ∧ (mJ (v'.2.2.2.1)) ∧ ((v'.2.2.2.1) 0 18 = g0 0 18) ∧ ((v'.2.2.2.1) 0 2 = g0 0 2)) → 13 - (Int32.toInt (v'.2.2.1)) < 13 - (Int32.toInt v5) → 0 < 13 - (Int32.toInt v5) → Ex (k41 v') (fun (r : Int32) (g1 : Nat → Nat → Int32) (L1 : Nat → Nat → Int64) => zI MT g1 ∧ mJ g1 ∧ g1 0 18 = g0 0 18 ∧ g1 0 2 = g0 0 2) := ih41
          show Ex (fX12_swap_s41 fu k26 v1 v4 k41 v2 v3 v5 g L) (fun (r : Int32) (g1 : Nat → Nat → Int32) (L1 : Nat → Nat → Int64) => zI MT g1 ∧ mJ g1 ∧ g1 0 18 = g0 0 18 ∧ g1 0 2 = g0 0 2)
          unfold fX12_swap_s41
          have b22 : 0 ≤ (Int32.toInt (g 0 1)) ∧ (Int32.toInt (g 0 1)) ≤ 12 := hI 0 1 0 12 rfl
          refine Ex.ite (fun c23 => ?_) (fun c23 => ?_)
          ·
            have c23 := icc_le (m := (Int32.toInt (g 0 1))) (n := (Int32.toInt v5)) rfl rfl c23
            generalize z24q : (v4 + 1) = z24
            have e25 : (Int32.toInt z24) = (Int32.toInt v4) + 1 := by rw [← z24q]; exact ic_addc rfl (by decide) (by omega) (by omega)
            exact ih26 (v2, v3, z24, g, L) ⟨(show (0 ≤ (Int32.toInt v1) ∧ (Int32.toInt v1) ≤ 1) from by omega), (show ((-1) ≤ (Int32.toInt v2) ∧ (Int32.toInt v2) ≤ 1899) from by omega), (show (0 ≤ (Int32.toInt z24) ∧ (Int32.toInt z24) ≤ 12) from by omega), hI, hJ, k0_0, k0_1⟩ (by show 13 - (Int32.toInt z24) < _; omega) (by omega)
          ·
            have c23 := icc_nle (m := (Int32.toInt (g 0 1))) (n := (Int32.toInt v5)) rfl rfl c23
            refine Ex.cb (sX12_swaps fu hfu v4 v5 g L hI hJ (by omega) (by omega)) (fun x26 g27 L28 hq30 => ?_)
            obtain ⟨hI, hJ, kk0, kk1⟩ := hq30
            have hI : zI MT g27 := hI
            have hJ : mJ g27 := hJ
            have k0_0 : g27 0 18 = g0 0 18 := kk0.trans k0_0
            have k0_1 : g27 0 2 = g0 0 2 := kk1.trans k0_1
            refine Ex.cb (sX12_lost fu hfu g27 L28 hI hJ) (fun x31 g32 L33 hq35 => ?_)
            obtain ⟨hI, hJ, kk0, kk1⟩ := hq35
            have hI : zI MT g32 := hI
            have hJ : mJ g32 := hJ
            have k0_0 : g32 0 18 = g0 0 18 := kk0.trans k0_0
            have k0_1 : g32 0 2 = g0 0 2 := kk1.trans k0_1
            refine Ex.cb (sX12_swaps fu hfu v4 v5 g32 L33 hI hJ (by omega) (by omega)) (fun x36 g37 L38 hq40 => ?_)
            obtain ⟨hI, hJ, kk0, kk1⟩ := hq40
            have hI : zI MT g37 := hI
            have hJ : mJ g37 := hJ
            have k0_0 : g37 0 18 = g0 0 18 := kk0.trans k0_0
            have k0_1 : g37 0 2 = g0 0 2 := kk1.trans k0_1
            have J93 : ∀ (v2 : Int32) (v3 : Int32) (g : Nat → Nat → Int32) (L : Nat → Nat → Int64), (0 ≤ (Int32.toInt v1) ∧ (Int32.toInt v1) ≤ 1) → ((-1) ≤ (Int32.toInt v2) ∧ (Int32.toInt v2) ≤ 1899) → (0 ≤ (Int32.toInt v4) ∧ (Int32.toInt v4) ≤ 11) → (1 ≤ (Int32.toInt v5) ∧ (Int32.toInt v5) ≤ 11) → zI MT g → mJ g → g 0 18 = g0 0 18 → g 0 2 = g0 0 2 → Ex (fX12_swap_p93 fu k26 k41 v1 v2 v3 v4 v5 g L) (fun (r : Int32) (g1 : Nat → Nat → Int32) (L1 : Nat → Nat → Int64) => zI MT g1 ∧ mJ g1 ∧ g1 0 18 = g0 0 18 ∧ g1 0 2 = g0 0 2) := by
              intro v2 v3 g L hb_v1 hb_v2 hb_v4 hb_v5 hI hJ k0_0 k0_1
              unfold fX12_swap_p93
              generalize z41q : (v5 + 1) = z41
              have e42 : (Int32.toInt z41) = (Int32.toInt v5) + 1 := by rw [← z41q]; exact ic_addc rfl (by decide) (by omega) (by omega)
              exact ih41 (v2, v3, z41, g, L) ⟨(show (0 ≤ (Int32.toInt v1) ∧ (Int32.toInt v1) ≤ 1) from by omega), (show ((-1) ≤ (Int32.toInt v2) ∧ (Int32.toInt v2) ≤ 1899) from by omega), (show (0 ≤ (Int32.toInt v4) ∧ (Int32.toInt v4) ≤ 11) from by omega), (show (1 ≤ (Int32.toInt z41) ∧ (Int32.toInt z41) ≤ 12) from by omega), hI, hJ, k0_0, k0_1⟩ (by show 13 - (Int32.toInt z41) < _; omega) (by omega)
            refine Ex.ite (fun c43 => ?_) (fun c43 => ?_)
            ·
              have c43 := icc_lt (m := (Int32.toInt x31)) (n := (Int32.toInt v3)) rfl rfl c43
              generalize z44q : (100 * v4) = z44
              have e45 : (Int32.toInt z44) = 100 * (Int32.toInt v4) := by rw [← z44q]; exact ic_mulc (by decide) rfl (by omega) (by omega)
              generalize z46q : (z44 + v5) = z46
              have e47 : (Int32.toInt z46) = (Int32.toInt z44) + (Int32.toInt v5) := by rw [← z46q]; exact ic_addc rfl rfl (by omega) (by omega)
              refine Ex.lti (fun x48 x48e x48i => ?_)
              exact J93 x48 x31 g37 L38 (by omega) (by omega) (by omega) (by omega) hI hJ k0_0 k0_1
            ·
              have c43 := icc_nlt (m := (Int32.toInt x31)) (n := (Int32.toInt v3)) rfl rfl c43
              exact J93 v2 v3 g37 L38 (by omega) (by omega) (by omega) (by omega) hI hJ k0_0 k0_1
        exact lp41 v2 v3 x21 g L (by omega) (by omega) (by omega) (by omega) hI hJ k0_0 k0_1
    exact lp26 p1 (-1) x10 0 g11 L12 (by omega) (by decide) (by decide) hI hJ k0_0 k0_1
set_option maxHeartbeats 4000000 in
set_option maxRecDepth 100000 in
theorem sX12_bestOf (fu : Nat) (hfu : 1180591620717411303424 ≤ fu) (p1 : Int32) (p2 : Int32) (p3 : Int32) (g0 : Nat → Nat → Int32) (L0 : Nat → Nat → Int64) (hI : zI MT g0) (hJ : mJ g0) (hp1 : (0 ≤ (Int32.toInt p1) ∧ (Int32.toInt p1) ≤ 47)) (hp2 : (0 ≤ (Int32.toInt p2) ∧ (Int32.toInt p2) ≤ 99)) : Ex (fX12_bestOf fu p1 p2 p3 g0 L0) (fun (r : Int32) (g1 : Nat → Nat → Int32) (L1 : Nat → Nat → Int64) => zI MT g1 ∧ mJ g1 ∧ g1 0 18 = g0 0 18 ∧ g1 0 2 = g0 0 2) := by
  have k0_0 : g0 0 18 = g0 0 18 := rfl
  have k0_1 : g0 0 2 = g0 0 2 := rfl
  unfold fX12_bestOf
  refine Ex.ck (by omega) (by omega) ?_
  refine Ex.lti (fun x1 x1e x1i => ?_)
  have lp17 : ∀ (v1 : Int32) (v2 : Int32) (v3 : Int32) (v4 : Int32) (v5 : Int32) (v6 : Int32) (v7 : Int32) (g : Nat → Nat → Int32) (L : Nat → Nat → Int64), (0 ≤ (Int32.toInt v1) ∧ (Int32.toInt v1) ≤ 47) → (0 ≤ (Int32.toInt v2) ∧ (Int32.toInt v2) ≤ 99) → ((-1) ≤ (Int32.toInt v5) ∧ (Int32.toInt v5) ≤ 255) → (0 ≤ (Int32.toInt v7) ∧ (Int32.toInt v7) ≤ 256) → zI MT g → mJ g → g 0 18 = g0 0 18 → g 0 2 = g0 0 2 → Ex (fX12_bestOf_l17 fu v1 v2 v3 v4 v5 v6 v7 g L) (fun (r : Int32) (g1 : Nat → Nat → Int32) (L1 : Nat → Nat → Int64) => zI MT g1 ∧ mJ g1 ∧ g1 0 18 = g0 0 18 ∧ g1 0 2 = g0 0 2) := by
    intro v1 v2 v3 v4 v5 v6 v7 g L hb_v1 hb_v2 hb_v5 hb_v7 hI hJ k0_0 k0_1
    unfold fX12_bestOf_l17
    refine Ex.loop (fun v => ((0 ≤ (Int32.toInt v1) ∧ (Int32.toInt v1) ≤ 47)) ∧ ((0 ≤ (Int32.toInt v2) ∧ (Int32.toInt v2) ≤ 99)) ∧ (((-1) ≤ (Int32.toInt (v.1)) ∧ (Int32.toInt (v.1)) ≤ 255)) ∧ ((0 ≤ (Int32.toInt (v.2.2.1)) ∧ (Int32.toInt (v.2.2.1)) ≤ 256)) ∧ (zI MT (v.2.2.2.1)) ∧ (mJ (v.2.2.2.1)) ∧ ((v.2.2.2.1) 0 18 = g0 0 18) ∧ ((v.2.2.2.1) 0 2 = g0 0 2)) (fun v => 257 - (Int32.toInt (v.2.2.1))) (by omega) (by show 257 - (Int32.toInt v7) < (fu : Int); omega) ⟨hb_v1, hb_v2, hb_v5, hb_v7, hI, hJ, k0_0, k0_1⟩ (fun k17 v hv ih17 => ?_)
    obtain ⟨v5, v6, v7, g, L⟩ := v
    obtain ⟨hb_v1, hb_v2, hb_v5, hb_v7, hI, hJ, k0_0, k0_1⟩ := hv
    have hb_v1 : (0 ≤ (Int32.toInt v1) ∧ (Int32.toInt v1) ≤ 47) := hb_v1
    have hb_v2 : (0 ≤ (Int32.toInt v2) ∧ (Int32.toInt v2) ≤ 99) := hb_v2
    have hb_v5 : ((-1) ≤ (Int32.toInt v5) ∧ (Int32.toInt v5) ≤ 255) := hb_v5
    have hb_v7 : (0 ≤ (Int32.toInt v7) ∧ (Int32.toInt v7) ≤ 256) := hb_v7
    have hI : zI MT g := hI
    have hJ : mJ g := hJ
    have k0_0 : g 0 18 = g0 0 18 := k0_0
    have k0_1 : g 0 2 = g0 0 2 := k0_1
    have ih17 : ∀ v' : Int32 × Int32 × Int32 × (Nat → Nat → Int32) × (Nat → Nat → Int64), (((0 ≤ (Int32.toInt v1) ∧ (Int32.toInt v1) ≤ 47)) ∧ ((0 ≤ (Int32.toInt v2) ∧ (Int32.toInt v2) ≤ 99)) ∧ (((-1) ≤ (Int32.toInt (v'.1)) ∧ (Int32.toInt (v'.1)) ≤ 255)) ∧ ((0 ≤ (Int32.toInt (v'.2.2.1)) ∧ (Int32.toInt (v'.2.2.1)) ≤ 256)) ∧ (zI MT (v'.2.2.2.1)) ∧ (mJ (v'.2.2.2.1)) ∧ ((v'.2.2.2.1) 0 18 = g0 0 18) ∧ ((v'.2.2.2.1) 0 2 = g0 0 2)) → 257 - (Int32.toInt (v'.2.2.1)) < 257 - (Int32.toInt v7) → 0 < 257 - (Int32.toInt v7) → Ex (k17 v') (fun (r : Int32) (g1 : Nat → Nat → Int32) (L1 : Nat → Nat → Int64) => zI MT g1 ∧ mJ g1 ∧ g1 0 18 = g0 0 18 ∧ g1 0 2 = g0 0 2) := ih17
    show Ex (fX12_bestOf_s17 fu v1 v2 v3 v4 k17 v5 v6 v7 g L) (fun (r : Int32) (g1 : Nat → Nat → Int32) (L1 : Nat → Nat → Int64) => zI MT g1 ∧ mJ g1 ∧ g1 0 18 = g0 0 18 ∧ g1 0 2 = g0 0 2)
    unfold fX12_bestOf_s17
    refine Ex.ite (fun c2 => ?_) (fun c2 => ?_)
    ·
      have c2 := icc_lt (m := (Int32.toInt v2)) (n := (Int32.toInt v7)) rfl rfl c2
      refine Ex.ck (by omega) (by omega) ?_
      refine Ex.sti (hI.updN rfl) (fun g3 g3e hI => ?_)
      have k0_0 : g3 0 18 = g0 0 18 := by rw [g3e]; exact k0_0
      have k0_1 : g3 0 2 = g0 0 2 := by rw [g3e]; exact k0_1
      have hJ : mJ g3 := by rw [g3e]; exact mJ.upd hJ rfl
      have J86 : ∀ (t0 : Int32) (g : Nat → Nat → Int32) (L : Nat → Nat → Int64), zI MT g → mJ g → g 0 18 = g0 0 18 → g 0 2 = g0 0 2 → Ex (fX12_bestOf_p86 fu t0 g L) (fun (r : Int32) (g1 : Nat → Nat → Int32) (L1 : Nat → Nat → Int64) => zI MT g1 ∧ mJ g1 ∧ g1 0 18 = g0 0 18 ∧ g1 0 2 = g0 0 2) := by
        intro t0 g L hI hJ k0_0 k0_1
        unfold fX12_bestOf_p86
        exact Ex.ret ⟨hI, hJ, k0_0, k0_1⟩
      refine Ex.ite (fun c4 => ?_) (fun c4 => ?_)
      ·
        have c4 := icc_eq (m := (Int32.toInt v3)) (n := 0) rfl (by decide) c4
        exact J86 v5 g3 L hI hJ k0_0 k0_1
      ·
        have c4 := icc_neq (m := (Int32.toInt v3)) (n := 0) rfl (by decide) c4
        exact J86 v6 g3 L hI hJ k0_0 k0_1
    ·
      have c2 := icc_nlt (m := (Int32.toInt v2)) (n := (Int32.toInt v7)) rfl rfl c2
      refine Ex.ck (by omega) (by omega) ?_
      refine Ex.sti (hI.updN rfl) (fun g5 g5e hI => ?_)
      have k0_0 : g5 0 18 = g0 0 18 := by rw [g5e]; exact k0_0
      have k0_1 : g5 0 2 = g0 0 2 := by rw [g5e]; exact k0_1
      have hJ : mJ g5 := by rw [g5e]; exact mJ.upd hJ rfl
      refine Ex.cb (sX12_lost fu hfu g5 L hI hJ) (fun x6 g7 L8 hq10 => ?_)
      obtain ⟨hI, hJ, kk0, kk1⟩ := hq10
      have hI : zI MT g7 := hI
      have hJ : mJ g7 := hJ
      have k0_0 : g7 0 18 = g0 0 18 := kk0.trans k0_0
      have k0_1 : g7 0 2 = g0 0 2 := kk1.trans k0_1
      have J61 : ∀ (v5 : Int32) (v6 : Int32) (g : Nat → Nat → Int32) (L : Nat → Nat → Int64), (0 ≤ (Int32.toInt v1) ∧ (Int32.toInt v1) ≤ 47) → (0 ≤ (Int32.toInt v2) ∧ (Int32.toInt v2) ≤ 99) → (0 ≤ (Int32.toInt v5) ∧ (Int32.toInt v5) ≤ 255) → (0 ≤ (Int32.toInt v7) ∧ (Int32.toInt v7) ≤ 99) → zI MT g → mJ g → g 0 18 = g0 0 18 → g 0 2 = g0 0 2 → Ex (fX12_bestOf_p61 fu k17 v1 v2 v3 v4 v5 v6 v7 g L) (fun (r : Int32) (g1 : Nat → Nat → Int32) (L1 : Nat → Nat → Int64) => zI MT g1 ∧ mJ g1 ∧ g1 0 18 = g0 0 18 ∧ g1 0 2 = g0 0 2) := by
        intro v5 v6 g L hb_v1 hb_v2 hb_v5 hb_v7 hI hJ k0_0 k0_1
        unfold fX12_bestOf_p61
        generalize z11q : (v7 + 1) = z11
        have e12 : (Int32.toInt z11) = (Int32.toInt v7) + 1 := by rw [← z11q]; exact ic_addc rfl (by decide) (by omega) (by omega)
        exact ih17 (v5, v6, z11, g, L) ⟨(show (0 ≤ (Int32.toInt v1) ∧ (Int32.toInt v1) ≤ 47) from by omega), (show (0 ≤ (Int32.toInt v2) ∧ (Int32.toInt v2) ≤ 99) from by omega), (show ((-1) ≤ (Int32.toInt v5) ∧ (Int32.toInt v5) ≤ 255) from by omega), (show (0 ≤ (Int32.toInt z11) ∧ (Int32.toInt z11) ≤ 256) from by omega), hI, hJ, k0_0, k0_1⟩ (by show 257 - (Int32.toInt z11) < _; omega) (by omega)
      have J53 : ∀ (v8 : Int32) (g : Nat → Nat → Int32) (L : Nat → Nat → Int64), (0 ≤ (Int32.toInt v1) ∧ (Int32.toInt v1) ≤ 47) → (0 ≤ (Int32.toInt v2) ∧ (Int32.toInt v2) ≤ 99) → (0 ≤ (Int32.toInt v7) ∧ (Int32.toInt v7) ≤ 99) → zI MT g → mJ g → g 0 18 = g0 0 18 → g 0 2 = g0 0 2 → Ex (fX12_bestOf_p53 fu k17 v1 v2 v3 v4 v7 v8 g L) (fun (r : Int32) (g1 : Nat → Nat → Int32) (L1 : Nat → Nat → Int64) => zI MT g1 ∧ mJ g1 ∧ g1 0 18 = g0 0 18 ∧ g1 0 2 = g0 0 2) := by
        intro v8 g L hb_v1 hb_v2 hb_v7 hI hJ k0_0 k0_1
        unfold fX12_bestOf_p53
        exact J61 v7 v8 g L (by omega) (by omega) (by omega) (by omega) hI hJ k0_0 k0_1
      refine Ex.ite (fun c13 => ?_) (fun c13 => ?_)
      ·
        have c13 := icc_eq (m := (Int32.toInt v5)) (n := (-1)) rfl (by decide) c13
        exact J53 x6 g7 L8 (by omega) (by omega) (by omega) hI hJ k0_0 k0_1
      ·
        have c13 := icc_neq (m := (Int32.toInt v5)) (n := (-1)) rfl (by decide) c13
        refine Ex.ite (fun c14 => ?_) (fun c14 => ?_)
        ·
          have c14 := icc_lt (m := (Int32.toInt x6)) (n := (Int32.toInt v6)) rfl rfl c14
          exact J53 x6 g7 L8 (by omega) (by omega) (by omega) hI hJ k0_0 k0_1
        ·
          have c14 := icc_nlt (m := (Int32.toInt x6)) (n := (Int32.toInt v6)) rfl rfl c14
          exact J61 v5 v6 g7 L8 (by omega) (by omega) (by omega) (by omega) hI hJ k0_0 k0_1
  exact lp17 p1 p2 p3 x1 (-1) 0 0 g0 L0 (by omega) (by omega) (by decide) (by decide) hI hJ k0_0 k0_1
set_option maxHeartbeats 4000000 in
set_option maxRecDepth 100000 in
theorem sX12_room (fu : Nat) (hfu : 1180591620717411303424 ≤ fu) (p1 : Int32) (p2 : Int32) (g0 : Nat → Nat → Int32) (L0 : Nat → Nat → Int64) (hI : zI MT g0) (hJ : mJ g0) : Ex (fX12_room fu p1 p2 g0 L0) (fun (r : Int32) (g1 : Nat → Nat → Int32) (L1 : Nat → Nat → Int64) => zI MT g1 ∧ mJ g1 ∧ g1 0 18 = g0 0 18 ∧ g1 0 2 = g0 0 2) := by
  have k0_0 : g0 0 18 = g0 0 18 := rfl
  have k0_1 : g0 0 2 = g0 0 2 := rfl
  unfold fX12_room
  refine Ex.sti (hI.updN rfl) (fun g1 g1e hI => ?_)
  have k0_0 : g1 0 18 = g0 0 18 := by rw [g1e]; exact k0_0
  have k0_1 : g1 0 2 = g0 0 2 := by rw [g1e]; exact k0_1
  have hJ : mJ g1 := by rw [g1e]; exact mJ.upd hJ rfl
  refine Ex.cb (sX12_isLesson fu hfu p1 g1 L0 hI hJ) (fun x2 g3 L4 hq6 => ?_)
  obtain ⟨hI, hJ, kk0, kk1, rb_, ip0⟩ := hq6
  have b7 : 0 ≤ (Int32.toInt x2) ∧ (Int32.toInt x2) ≤ 1 := rb_
  have ip8 : (Int32.toInt x2) = 1 → 0 ≤ (Int32.toInt p1) ∧ (Int32.toInt p1) ≤ 11 := ip0
  have hI : zI MT g3 := hI
  have hJ : mJ g3 := hJ
  have k0_0 : g3 0 18 = g0 0 18 := kk0.trans k0_0
  have k0_1 : g3 0 2 = g0 0 2 := kk1.trans k0_1
  have J37 : ∀ (t0 : Int32) (g : Nat → Nat → Int32) (L : Nat → Nat → Int64), zI MT g → mJ g → g 0 18 = g0 0 18 → g 0 2 = g0 0 2 → Ex (fX12_room_p37 fu t0 g L) (fun (r : Int32) (g1 : Nat → Nat → Int32) (L1 : Nat → Nat → Int64) => zI MT g1 ∧ mJ g1 ∧ g1 0 18 = g0 0 18 ∧ g1 0 2 = g0 0 2) := by
    intro t0 g L hI hJ k0_0 k0_1
    unfold fX12_room_p37
    exact Ex.ret ⟨hI, hJ, k0_0, k0_1⟩
  have J36 : ∀ (g : Nat → Nat → Int32) (L : Nat → Nat → Int64), zI MT g → mJ g → g 0 18 = g0 0 18 → g 0 2 = g0 0 2 → Ex (fX12_room_p36 fu g L) (fun (r : Int32) (g1 : Nat → Nat → Int32) (L1 : Nat → Nat → Int64) => zI MT g1 ∧ mJ g1 ∧ g1 0 18 = g0 0 18 ∧ g1 0 2 = g0 0 2) := by
    intro g L hI hJ k0_0 k0_1
    unfold fX12_room_p36
    exact J37 0 g L hI hJ k0_0 k0_1
  refine Ex.ite (fun c9 => ?_) (fun c9 => ?_)
  ·
    have c9 := icc_eq (m := (Int32.toInt x2)) (n := 0) rfl (by decide) c9
    exact J36 g3 L4 hI hJ k0_0 k0_1
  ·
    have c9 := icc_neq (m := (Int32.toInt x2)) (n := 0) rfl (by decide) c9
    refine Ex.cb (sX12_isWhat fu hfu p2 1 g3 L4 hI hJ) (fun x10 g11 L12 hq14 => ?_)
    obtain ⟨hI, hJ, kk0, kk1, rb_, ip0⟩ := hq14
    have b15 : 0 ≤ (Int32.toInt x10) ∧ (Int32.toInt x10) ≤ 1 := rb_
    have ip16 : (Int32.toInt x10) = 1 → 0 ≤ (Int32.toInt p2) ∧ (Int32.toInt p2) ≤ 1 := ip0
    have hI : zI MT g11 := hI
    have hJ : mJ g11 := hJ
    have k0_0 : g11 0 18 = g0 0 18 := kk0.trans k0_0
    have k0_1 : g11 0 2 = g0 0 2 := kk1.trans k0_1
    refine Ex.ite (fun c17 => ?_) (fun c17 => ?_)
    ·
      have c17 := icc_eq (m := (Int32.toInt x10)) (n := 0) rfl (by decide) c17
      exact J36 g11 L12 hI hJ k0_0 k0_1
    ·
      have c17 := icc_neq (m := (Int32.toInt x10)) (n := 0) rfl (by decide) c17
      generalize z18q : (24 + p1) = z18
      have e19 : (Int32.toInt z18) = 24 + (Int32.toInt p1) := by rw [← z18q]; exact ic_addc (by decide) rfl (by omega) (by omega)
      refine Ex.cb (sX12_bestOf fu hfu z18 9 p2 g11 L12 hI hJ (by omega) (by decide)) (fun x20 g21 L22 hq24 => ?_)
      obtain ⟨hI, hJ, kk0, kk1⟩ := hq24
      have hI : zI MT g21 := hI
      have hJ : mJ g21 := hJ
      have k0_0 : g21 0 18 = g0 0 18 := kk0.trans k0_0
      have k0_1 : g21 0 2 = g0 0 2 := kk1.trans k0_1
      exact J37 x20 g21 L22 hI hJ k0_0 k0_1
set_option maxHeartbeats 4000000 in
set_option maxRecDepth 100000 in
theorem sX12_limit (fu : Nat) (hfu : 1180591620717411303424 ≤ fu) (p1 : Int32) (p2 : Int32) (g0 : Nat → Nat → Int32) (L0 : Nat → Nat → Int64) (hI : zI MT g0) (hJ : mJ g0) : Ex (fX12_limit fu p1 p2 g0 L0) (fun (r : Int32) (g1 : Nat → Nat → Int32) (L1 : Nat → Nat → Int64) => zI MT g1 ∧ mJ g1 ∧ g1 0 18 = g0 0 18 ∧ g1 0 2 = g0 0 2) := by
  have k0_0 : g0 0 18 = g0 0 18 := rfl
  have k0_1 : g0 0 2 = g0 0 2 := rfl
  unfold fX12_limit
  refine Ex.sti (hI.updN rfl) (fun g1 g1e hI => ?_)
  have k0_0 : g1 0 18 = g0 0 18 := by rw [g1e]; exact k0_0
  have k0_1 : g1 0 2 = g0 0 2 := by rw [g1e]; exact k0_1
  have hJ : mJ g1 := by rw [g1e]; exact mJ.upd hJ rfl
  refine Ex.cb (sX12_isLesson fu hfu p1 g1 L0 hI hJ) (fun x2 g3 L4 hq6 => ?_)
  obtain ⟨hI, hJ, kk0, kk1, rb_, ip0⟩ := hq6
  have b7 : 0 ≤ (Int32.toInt x2) ∧ (Int32.toInt x2) ≤ 1 := rb_
  have ip8 : (Int32.toInt x2) = 1 → 0 ≤ (Int32.toInt p1) ∧ (Int32.toInt p1) ≤ 11 := ip0
  have hI : zI MT g3 := hI
  have hJ : mJ g3 := hJ
  have k0_0 : g3 0 18 = g0 0 18 := kk0.trans k0_0
  have k0_1 : g3 0 2 = g0 0 2 := kk1.trans k0_1
  have J37 : ∀ (t0 : Int32) (g : Nat → Nat → Int32) (L : Nat → Nat → Int64), zI MT g → mJ g → g 0 18 = g0 0 18 → g 0 2 = g0 0 2 → Ex (fX12_limit_p37 fu t0 g L) (fun (r : Int32) (g1 : Nat → Nat → Int32) (L1 : Nat → Nat → Int64) => zI MT g1 ∧ mJ g1 ∧ g1 0 18 = g0 0 18 ∧ g1 0 2 = g0 0 2) := by
    intro t0 g L hI hJ k0_0 k0_1
    unfold fX12_limit_p37
    exact Ex.ret ⟨hI, hJ, k0_0, k0_1⟩
  have J36 : ∀ (g : Nat → Nat → Int32) (L : Nat → Nat → Int64), zI MT g → mJ g → g 0 18 = g0 0 18 → g 0 2 = g0 0 2 → Ex (fX12_limit_p36 fu g L) (fun (r : Int32) (g1 : Nat → Nat → Int32) (L1 : Nat → Nat → Int64) => zI MT g1 ∧ mJ g1 ∧ g1 0 18 = g0 0 18 ∧ g1 0 2 = g0 0 2) := by
    intro g L hI hJ k0_0 k0_1
    unfold fX12_limit_p36
    exact J37 0 g L hI hJ k0_0 k0_1
  refine Ex.ite (fun c9 => ?_) (fun c9 => ?_)
  ·
    have c9 := icc_eq (m := (Int32.toInt x2)) (n := 0) rfl (by decide) c9
    exact J36 g3 L4 hI hJ k0_0 k0_1
  ·
    have c9 := icc_neq (m := (Int32.toInt x2)) (n := 0) rfl (by decide) c9
    refine Ex.cb (sX12_isWhat fu hfu p2 1 g3 L4 hI hJ) (fun x10 g11 L12 hq14 => ?_)
    obtain ⟨hI, hJ, kk0, kk1, rb_, ip0⟩ := hq14
    have b15 : 0 ≤ (Int32.toInt x10) ∧ (Int32.toInt x10) ≤ 1 := rb_
    have ip16 : (Int32.toInt x10) = 1 → 0 ≤ (Int32.toInt p2) ∧ (Int32.toInt p2) ≤ 1 := ip0
    have hI : zI MT g11 := hI
    have hJ : mJ g11 := hJ
    have k0_0 : g11 0 18 = g0 0 18 := kk0.trans k0_0
    have k0_1 : g11 0 2 = g0 0 2 := kk1.trans k0_1
    refine Ex.ite (fun c17 => ?_) (fun c17 => ?_)
    ·
      have c17 := icc_eq (m := (Int32.toInt x10)) (n := 0) rfl (by decide) c17
      exact J36 g11 L12 hI hJ k0_0 k0_1
    ·
      have c17 := icc_neq (m := (Int32.toInt x10)) (n := 0) rfl (by decide) c17
      generalize z18q : (36 + p1) = z18
      have e19 : (Int32.toInt z18) = 36 + (Int32.toInt p1) := by rw [← z18q]; exact ic_addc (by decide) rfl (by omega) (by omega)
      refine Ex.cb (sX12_bestOf fu hfu z18 99 p2 g11 L12 hI hJ (by omega) (by decide)) (fun x20 g21 L22 hq24 => ?_)
      obtain ⟨hI, hJ, kk0, kk1⟩ := hq24
      have hI : zI MT g21 := hI
      have hJ : mJ g21 := hJ
      have k0_0 : g21 0 18 = g0 0 18 := kk0.trans k0_0
      have k0_1 : g21 0 2 = g0 0 2 := kk1.trans k0_1
      exact J37 x20 g21 L22 hI hJ k0_0 k0_1
set_option maxHeartbeats 4000000 in
set_option maxRecDepth 100000 in
theorem sX12_last (fu : Nat) (hfu : 1180591620717411303424 ≤ fu) (g0 : Nat → Nat → Int32) (L0 : Nat → Nat → Int64) (hI : zI MT g0) (hJ : mJ g0) : Ex (fX12_last fu g0 L0) (fun (r : Int32) (g1 : Nat → Nat → Int32) (L1 : Nat → Nat → Int64) => zI MT g1 ∧ mJ g1 ∧ g1 0 18 = g0 0 18 ∧ g1 0 2 = g0 0 2 ∧ ((-1) ≤ (Int32.toInt r) ∧ (Int32.toInt r) ≤ 11)) := by
  have k0_0 : g0 0 18 = g0 0 18 := rfl
  have k0_1 : g0 0 2 = g0 0 2 := rfl
  unfold fX12_last
  refine Ex.sti (hI.updN rfl) (fun g1 g1e hI => ?_)
  have k0_0 : g1 0 18 = g0 0 18 := by rw [g1e]; exact k0_0
  have k0_1 : g1 0 2 = g0 0 2 := by rw [g1e]; exact k0_1
  have hJ : mJ g1 := by rw [g1e]; exact mJ.upd hJ rfl
  have lp11 : ∀ (v1 : Int32) (v2 : Int32) (v3 : Int32) (g : Nat → Nat → Int32) (L : Nat → Nat → Int64), ((-1) ≤ (Int32.toInt v1) ∧ (Int32.toInt v1) ≤ 11) → (0 ≤ (Int32.toInt v3) ∧ (Int32.toInt v3) ≤ 12) → zI MT g → mJ g → g 0 18 = g0 0 18 → g 0 2 = g0 0 2 → Ex (fX12_last_l11 fu v1 v2 v3 g L) (fun (r : Int32) (g1 : Nat → Nat → Int32) (L1 : Nat → Nat → Int64) => zI MT g1 ∧ mJ g1 ∧ g1 0 18 = g0 0 18 ∧ g1 0 2 = g0 0 2 ∧ ((-1) ≤ (Int32.toInt r) ∧ (Int32.toInt r) ≤ 11)) := by
    intro v1 v2 v3 g L hb_v1 hb_v3 hI hJ k0_0 k0_1
    unfold fX12_last_l11
    refine Ex.loop (fun v => (((-1) ≤ (Int32.toInt (v.1)) ∧ (Int32.toInt (v.1)) ≤ 11)) ∧ ((0 ≤ (Int32.toInt (v.2.2.1)) ∧ (Int32.toInt (v.2.2.1)) ≤ 12)) ∧ (zI MT (v.2.2.2.1)) ∧ (mJ (v.2.2.2.1)) ∧ ((v.2.2.2.1) 0 18 = g0 0 18) ∧ ((v.2.2.2.1) 0 2 = g0 0 2)) (fun v => 13 - (Int32.toInt (v.2.2.1))) (by omega) (by show 13 - (Int32.toInt v3) < (fu : Int); omega) ⟨hb_v1, hb_v3, hI, hJ, k0_0, k0_1⟩ (fun k11 v hv ih11 => ?_)
    obtain ⟨v1, v2, v3, g, L⟩ := v
    obtain ⟨hb_v1, hb_v3, hI, hJ, k0_0, k0_1⟩ := hv
    have hb_v1 : ((-1) ≤ (Int32.toInt v1) ∧ (Int32.toInt v1) ≤ 11) := hb_v1
    have hb_v3 : (0 ≤ (Int32.toInt v3) ∧ (Int32.toInt v3) ≤ 12) := hb_v3
    have hI : zI MT g := hI
    have hJ : mJ g := hJ
    have k0_0 : g 0 18 = g0 0 18 := k0_0
    have k0_1 : g 0 2 = g0 0 2 := k0_1
    have ih11 : ∀ v' : Int32 × Int32 × Int32 × (Nat → Nat → Int32) × (Nat → Nat → Int64), ((((-1) ≤ (Int32.toInt (v'.1)) ∧ (Int32.toInt (v'.1)) ≤ 11)) ∧ ((0 ≤ (Int32.toInt (v'.2.2.1)) ∧ (Int32.toInt (v'.2.2.1)) ≤ 12)) ∧ (zI MT (v'.2.2.2.1)) ∧ (mJ (v'.2.2.2.1)) ∧ ((v'.2.2.2.1) 0 18 = g0 0 18) ∧ ((v'.2.2.2.1) 0 2 = g0 0 2)) → 13 - (Int32.toInt (v'.2.2.1)) < 13 - (Int32.toInt v3) → 0 < 13 - (Int32.toInt v3) → Ex (k11 v') (fun (r : Int32) (g1 : Nat → Nat → Int32) (L1 : Nat → Nat → Int64) => zI MT g1 ∧ mJ g1 ∧ g1 0 18 = g0 0 18 ∧ g1 0 2 = g0 0 2 ∧ ((-1) ≤ (Int32.toInt r) ∧ (Int32.toInt r) ≤ 11)) := ih11
    show Ex (fX12_last_s11 fu k11 v1 v2 v3 g L) (fun (r : Int32) (g1 : Nat → Nat → Int32) (L1 : Nat → Nat → Int64) => zI MT g1 ∧ mJ g1 ∧ g1 0 18 = g0 0 18 ∧ g1 0 2 = g0 0 2 ∧ ((-1) ≤ (Int32.toInt r) ∧ (Int32.toInt r) ≤ 11))
    unfold fX12_last_s11
    have b2 : 0 ≤ (Int32.toInt (g 0 1)) ∧ (Int32.toInt (g 0 1)) ≤ 12 := hI 0 1 0 12 rfl
    refine Ex.ite (fun c3 => ?_) (fun c3 => ?_)
    ·
      have c3 := icc_le (m := (Int32.toInt (g 0 1))) (n := (Int32.toInt v3)) rfl rfl c3
      exact Ex.ret ⟨hI, hJ, k0_0, k0_1, (by omega)⟩
    ·
      have c3 := icc_nle (m := (Int32.toInt (g 0 1))) (n := (Int32.toInt v3)) rfl rfl c3
      generalize z4q : (0 + v3) = z4
      have e5 : (Int32.toInt z4) = 0 + (Int32.toInt v3) := by rw [← z4q]; exact ic_addc (by decide) rfl (by omega) (by omega)
      refine Ex.ck (by omega) (by omega) ?_
      refine Ex.lti (fun x6 x6e x6i => ?_)
      have e7 : (Int32.toInt z4) = 0 + (Int32.toInt v3) := by rw [← z4q]; exact ic_addc (by decide) rfl (by omega) (by omega)
      refine Ex.ck (by omega) (by omega) ?_
      refine Ex.sti (hI.updN rfl) (fun g8 g8e hI => ?_)
      have k0_0 : g8 0 18 = g0 0 18 := by rw [g8e]; exact k0_0
      have k0_1 : g8 0 2 = g0 0 2 := by rw [g8e]; exact k0_1
      have hJ : mJ g8 := by rw [g8e]; exact mJ.upd hJ rfl
      refine Ex.cb (sX12_lost fu hfu g8 L hI hJ) (fun x9 g10 L11 hq13 => ?_)
      obtain ⟨hI, hJ, kk0, kk1⟩ := hq13
      have hI : zI MT g10 := hI
      have hJ : mJ g10 := hJ
      have k0_0 : g10 0 18 = g0 0 18 := kk0.trans k0_0
      have k0_1 : g10 0 2 = g0 0 2 := kk1.trans k0_1
      have e14 : (Int32.toInt z4) = 0 + (Int32.toInt v3) := by rw [← z4q]; exact ic_addc (by decide) rfl (by omega) (by omega)
      refine Ex.ck (by omega) (by omega) ?_
      refine Ex.sti (hI.updN rfl) (fun g15 g15e hI => ?_)
      have k0_0 : g15 0 18 = g0 0 18 := by rw [g15e]; exact k0_0
      have k0_1 : g15 0 2 = g0 0 2 := by rw [g15e]; exact k0_1
      have hJ : mJ g15 := by rw [g15e]; exact mJ.upd hJ rfl
      have J73 : ∀ (v1 : Int32) (v2 : Int32) (g : Nat → Nat → Int32) (L : Nat → Nat → Int64), (0 ≤ (Int32.toInt v1) ∧ (Int32.toInt v1) ≤ 11) → (0 ≤ (Int32.toInt v3) ∧ (Int32.toInt v3) ≤ 11) → zI MT g → mJ g → g 0 18 = g0 0 18 → g 0 2 = g0 0 2 → Ex (fX12_last_p73 fu k11 v1 v2 v3 g L) (fun (r : Int32) (g1 : Nat → Nat → Int32) (L1 : Nat → Nat → Int64) => zI MT g1 ∧ mJ g1 ∧ g1 0 18 = g0 0 18 ∧ g1 0 2 = g0 0 2 ∧ ((-1) ≤ (Int32.toInt r) ∧ (Int32.toInt r) ≤ 11)) := by
        intro v1 v2 g L hb_v1 hb_v3 hI hJ k0_0 k0_1
        unfold fX12_last_p73
        generalize z16q : (v3 + 1) = z16
        have e17 : (Int32.toInt z16) = (Int32.toInt v3) + 1 := by rw [← z16q]; exact ic_addc rfl (by decide) (by omega) (by omega)
        exact ih11 (v1, v2, z16, g, L) ⟨(show ((-1) ≤ (Int32.toInt v1) ∧ (Int32.toInt v1) ≤ 11) from by omega), (show (0 ≤ (Int32.toInt z16) ∧ (Int32.toInt z16) ≤ 12) from by omega), hI, hJ, k0_0, k0_1⟩ (by show 13 - (Int32.toInt z16) < _; omega) (by omega)
      have J68 : ∀ (v5 : Int32) (g : Nat → Nat → Int32) (L : Nat → Nat → Int64), (0 ≤ (Int32.toInt v3) ∧ (Int32.toInt v3) ≤ 11) → zI MT g → mJ g → g 0 18 = g0 0 18 → g 0 2 = g0 0 2 → Ex (fX12_last_p68 fu k11 v3 v5 g L) (fun (r : Int32) (g1 : Nat → Nat → Int32) (L1 : Nat → Nat → Int64) => zI MT g1 ∧ mJ g1 ∧ g1 0 18 = g0 0 18 ∧ g1 0 2 = g0 0 2 ∧ ((-1) ≤ (Int32.toInt r) ∧ (Int32.toInt r) ≤ 11)) := by
        intro v5 g L hb_v3 hI hJ k0_0 k0_1
        unfold fX12_last_p68
        exact J73 v3 v5 g L (by omega) (by omega) hI hJ k0_0 k0_1
      refine Ex.ite (fun c18 => ?_) (fun c18 => ?_)
      ·
        have c18 := icc_eq (m := (Int32.toInt v1)) (n := (-1)) rfl (by decide) c18
        exact J68 x9 g15 L11 (by omega) hI hJ k0_0 k0_1
      ·
        have c18 := icc_neq (m := (Int32.toInt v1)) (n := (-1)) rfl (by decide) c18
        refine Ex.ite (fun c19 => ?_) (fun c19 => ?_)
        ·
          have c19 := icc_lt (m := (Int32.toInt x9)) (n := (Int32.toInt v2)) rfl rfl c19
          exact J68 x9 g15 L11 (by omega) hI hJ k0_0 k0_1
        ·
          have c19 := icc_nlt (m := (Int32.toInt x9)) (n := (Int32.toInt v2)) rfl rfl c19
          exact J73 v1 v2 g15 L11 (by omega) (by omega) hI hJ k0_0 k0_1
  exact lp11 (-1) 0 0 g1 L0 (by decide) (by decide) hI hJ k0_0 k0_1
set_option maxHeartbeats 4000000 in
set_option maxRecDepth 100000 in
theorem sX12_lostBy (fu : Nat) (hfu : 1180591620717411303424 ≤ fu) (p1 : Int32) (g0 : Nat → Nat → Int32) (L0 : Nat → Nat → Int64) (hI : zI MT g0) (hJ : mJ g0) (hp1 : ((-1) ≤ (Int32.toInt p1) ∧ (Int32.toInt p1) ≤ 3)) (hc0 : (Int32.toInt p1) < (Int32.toInt (g0 0 2))) : Ex (fX12_lostBy fu p1 g0 L0) (fun (r : Int32) (g1 : Nat → Nat → Int32) (L1 : Nat → Nat → Int64) => zI MT g1 ∧ mJ g1 ∧ g1 0 18 = g0 0 18 ∧ g1 0 2 = g0 0 2) := by
  have k0_0 : g0 0 18 = g0 0 18 := rfl
  have k0_1 : g0 0 2 = g0 0 2 := rfl
  have w1_0 := hI 0 2 0 4 rfl
  unfold fX12_lostBy
  have b1 : (-1) ≤ (Int32.toInt (g0 0 52)) ∧ (Int32.toInt (g0 0 52)) ≤ 3 := hI 0 52 (-1) 3 rfl
  have hm_ := hJ.2.1
  refine Ex.lti (fun x2 x2e x2i => ?_)
  refine Ex.sti (hI.upd rfl (by omega) (by omega)) (fun g3 g3e hI => ?_)
  have w4 : (Int32.toInt (g3 0 2)) = (Int32.toInt (g0 0 2)) := by rw [g3e]; rfl
  have k0_0 : g3 0 18 = g0 0 18 := by rw [g3e]; exact k0_0
  have k0_1 : g3 0 2 = g0 0 2 := by rw [g3e]; exact k0_1
  have hJ : mJ g3 := by rw [g3e]; exact mJ.force hJ (by omega)
  refine Ex.cb (sX12_lost fu hfu g3 L0 hI hJ) (fun x5 g6 L7 hq9 => ?_)
  obtain ⟨hI, hJ, kk0, kk1⟩ := hq9
  have hI : zI MT g6 := hI
  have hJ : mJ g6 := hJ
  have w10 : (Int32.toInt (g6 0 2)) = (Int32.toInt (g3 0 2)) := congrArg Int32.toInt kk1
  have k0_0 : g6 0 18 = g0 0 18 := kk0.trans k0_0
  have k0_1 : g6 0 2 = g0 0 2 := kk1.trans k0_1
  refine Ex.sti (hI.upd rfl (by omega) (by omega)) (fun g11 g11e hI => ?_)
  have w12 : (Int32.toInt (g11 0 2)) = (Int32.toInt (g6 0 2)) := by rw [g11e]; rfl
  have k0_0 : g11 0 18 = g0 0 18 := by rw [g11e]; exact k0_0
  have k0_1 : g11 0 2 = g0 0 2 := by rw [g11e]; exact k0_1
  have hJ : mJ g11 := by rw [g11e]; exact mJ.force hJ (by omega)
  exact Ex.ret ⟨hI, hJ, k0_0, k0_1⟩
set_option maxHeartbeats 4000000 in
set_option maxRecDepth 100000 in
theorem sX12_compare (fu : Nat) (hfu : 1180591620717411303424 ≤ fu) (p1 : Int32) (g0 : Nat → Nat → Int32) (L0 : Nat → Nat → Int64) (hI : zI MT g0) (hJ : mJ g0) : Ex (fX12_compare fu p1 g0 L0) (fun (r : Int32) (g1 : Nat → Nat → Int32) (L1 : Nat → Nat → Int64) => zI MT g1 ∧ mJ g1 ∧ g1 0 18 = g0 0 18 ∧ g1 0 2 = g0 0 2) := by
  have k0_0 : g0 0 18 = g0 0 18 := rfl
  have k0_1 : g0 0 2 = g0 0 2 := rfl
  have w1_0 := hI 0 2 0 4 rfl
  unfold fX12_compare
  refine Ex.sti (hI.updN rfl) (fun g1 g1e hI => ?_)
  have w2 : (Int32.toInt (g1 0 2)) = (Int32.toInt (g0 0 2)) := by rw [g1e]; rfl
  have k0_0 : g1 0 18 = g0 0 18 := by rw [g1e]; exact k0_0
  have k0_1 : g1 0 2 = g0 0 2 := by rw [g1e]; exact k0_1
  have hJ : mJ g1 := by rw [g1e]; exact mJ.upd hJ rfl
  have J24 : ∀ (v1 : Int32) (t0 : Int32) (g : Nat → Nat → Int32) (L : Nat → Nat → Int64), (0 ≤ (Int32.toInt t0) ∧ (Int32.toInt t0) ≤ 1) → (0 ≤ (Int32.toInt (g 0 2)) ∧ (Int32.toInt (g 0 2)) ≤ 4) → ((Int32.toInt t0) = 1 → -1 ≤ (Int32.toInt v1) ∧ (Int32.toInt v1) < (Int32.toInt (g 0 2))) → zI MT g → mJ g → g 0 18 = g0 0 18 → g 0 2 = g0 0 2 → Ex (fX12_compare_p24 fu v1 t0 g L) (fun (r : Int32) (g1 : Nat → Nat → Int32) (L1 : Nat → Nat → Int64) => zI MT g1 ∧ mJ g1 ∧ g1 0 18 = g0 0 18 ∧ g1 0 2 = g0 0 2) := by
    intro v1 t0 g L hb_t0 hw_0_2 hn_0 hI hJ k0_0 k0_1
    unfold fX12_compare_p24
    refine Ex.cb (sX12_right fu hfu t0 1 g L hI hJ (by omega) (by decide)) (fun x3 g4 L5 hq7 => ?_)
    obtain ⟨hI, hJ, kk0, kk1, rb_, ip0⟩ := hq7
    have b8 : 0 ≤ (Int32.toInt x3) ∧ (Int32.toInt x3) ≤ 1 := rb_
    have ip9 : (Int32.toInt x3) = 1 → 1 ≤ (Int32.toInt t0) ∧ (Int32.toInt t0) ≤ 1 := ip0
    have hI : zI MT g4 := hI
    have hJ : mJ g4 := hJ
    have w10 : (Int32.toInt (g4 0 2)) = (Int32.toInt (g 0 2)) := congrArg Int32.toInt kk1
    have k0_0 : g4 0 18 = g0 0 18 := kk0.trans k0_0
    have k0_1 : g4 0 2 = g0 0 2 := kk1.trans k0_1
    have J40 : ∀ (t0 : Int32) (g : Nat → Nat → Int32) (L : Nat → Nat → Int64), (0 ≤ (Int32.toInt (g 0 2)) ∧ (Int32.toInt (g 0 2)) ≤ 4) → zI MT g → mJ g → g 0 18 = g0 0 18 → g 0 2 = g0 0 2 → Ex (fX12_compare_p40 fu t0 g L) (fun (r : Int32) (g1 : Nat → Nat → Int32) (L1 : Nat → Nat → Int64) => zI MT g1 ∧ mJ g1 ∧ g1 0 18 = g0 0 18 ∧ g1 0 2 = g0 0 2) := by
      intro t0 g L hw_0_2 hI hJ k0_0 k0_1
      unfold fX12_compare_p40
      exact Ex.ret ⟨hI, hJ, k0_0, k0_1⟩
    refine Ex.ite (fun c11 => ?_) (fun c11 => ?_)
    ·
      have c11 := icc_eq (m := (Int32.toInt x3)) (n := 0) rfl (by decide) c11
      exact J40 0 g4 L5 (by omega) hI hJ k0_0 k0_1
    ·
      have c11 := icc_neq (m := (Int32.toInt x3)) (n := 0) rfl (by decide) c11
      refine Ex.cb (sX12_lostBy fu hfu v1 g4 L5 hI hJ (by omega) (by omega)) (fun x12 g13 L14 hq16 => ?_)
      obtain ⟨hI, hJ, kk0, kk1⟩ := hq16
      have hI : zI MT g13 := hI
      have hJ : mJ g13 := hJ
      have w17 : (Int32.toInt (g13 0 2)) = (Int32.toInt (g4 0 2)) := congrArg Int32.toInt kk1
      have k0_0 : g13 0 18 = g0 0 18 := kk0.trans k0_0
      have k0_1 : g13 0 2 = g0 0 2 := kk1.trans k0_1
      exact J40 x12 g13 L14 (by omega) hI hJ k0_0 k0_1
  have J23 : ∀ (v1 : Int32) (g : Nat → Nat → Int32) (L : Nat → Nat → Int64), (0 ≤ (Int32.toInt (g 0 2)) ∧ (Int32.toInt (g 0 2)) ≤ 4) → zI MT g → mJ g → g 0 18 = g0 0 18 → g 0 2 = g0 0 2 → Ex (fX12_compare_p23 fu v1 g L) (fun (r : Int32) (g1 : Nat → Nat → Int32) (L1 : Nat → Nat → Int64) => zI MT g1 ∧ mJ g1 ∧ g1 0 18 = g0 0 18 ∧ g1 0 2 = g0 0 2) := by
    intro v1 g L hw_0_2 hI hJ k0_0 k0_1
    unfold fX12_compare_p23
    have hc_ : (0 : Int32).toInt = 0 := by decide
    exact J24 v1 0 g L (by decide) (by omega) (by omega) hI hJ k0_0 k0_1
  refine Ex.ite (fun c18 => ?_) (fun c18 => ?_)
  ·
    have c18 := icc_lt (m := (Int32.toInt p1)) (n := (-1)) rfl (by decide) c18
    exact J23 p1 g1 L0 (by omega) hI hJ k0_0 k0_1
  ·
    have c18 := icc_nlt (m := (Int32.toInt p1)) (n := (-1)) rfl (by decide) c18
    have b19 : 0 ≤ (Int32.toInt (g1 0 2)) ∧ (Int32.toInt (g1 0 2)) ≤ 4 := hI 0 2 0 4 rfl
    refine Ex.ite (fun c20 => ?_) (fun c20 => ?_)
    ·
      have c20 := icc_le (m := (Int32.toInt (g1 0 2))) (n := (Int32.toInt p1)) rfl rfl c20
      exact J23 p1 g1 L0 (by omega) hI hJ k0_0 k0_1
    ·
      have c20 := icc_nle (m := (Int32.toInt (g1 0 2))) (n := (Int32.toInt p1)) rfl rfl c20
      have hc_ : (1 : Int32).toInt = 1 := by decide
      exact J24 p1 1 g1 L0 (by decide) (by omega) (by omega) hI hJ k0_0 k0_1
set_option maxHeartbeats 4000000 in
set_option maxRecDepth 100000 in
theorem sX12_best (fu : Nat) (hfu : 1180591620717411303424 ≤ fu) (g0 : Nat → Nat → Int32) (L0 : Nat → Nat → Int64) (hI : zI MT g0) (hJ : mJ g0) : Ex (fX12_best fu g0 L0) (fun (r : Int32) (g1 : Nat → Nat → Int32) (L1 : Nat → Nat → Int64) => zI MT g1 ∧ mJ g1 ∧ g1 0 18 = g0 0 18 ∧ g1 0 2 = g0 0 2 ∧ ((-1) ≤ (Int32.toInt r) ∧ (Int32.toInt r) ≤ 4)) := by
  have k0_0 : g0 0 18 = g0 0 18 := rfl
  have k0_1 : g0 0 2 = g0 0 2 := rfl
  have w1_0 := hI 0 2 0 4 rfl
  unfold fX12_best
  refine Ex.sti (hI.updN rfl) (fun g1 g1e hI => ?_)
  have w2 : (Int32.toInt (g1 0 2)) = (Int32.toInt (g0 0 2)) := by rw [g1e]; rfl
  have k0_0 : g1 0 18 = g0 0 18 := by rw [g1e]; exact k0_0
  have k0_1 : g1 0 2 = g0 0 2 := by rw [g1e]; exact k0_1
  have hJ : mJ g1 := by rw [g1e]; exact mJ.upd hJ rfl
  have lp9 : ∀ (v1 : Int32) (v2 : Int32) (g : Nat → Nat → Int32) (L : Nat → Nat → Int64), ((-1) ≤ (Int32.toInt v1) ∧ (Int32.toInt v1) ≤ 4) → (0 ≤ (Int32.toInt v2) ∧ (Int32.toInt v2) ≤ 4) → (0 ≤ (Int32.toInt (g 0 2)) ∧ (Int32.toInt (g 0 2)) ≤ 4) → ((Int32.toInt v1) < (Int32.toInt (g 0 2))) → zI MT g → mJ g → g 0 18 = g0 0 18 → g 0 2 = g0 0 2 → Ex (fX12_best_l9 fu v1 v2 g L) (fun (r : Int32) (g1 : Nat → Nat → Int32) (L1 : Nat → Nat → Int64) => zI MT g1 ∧ mJ g1 ∧ g1 0 18 = g0 0 18 ∧ g1 0 2 = g0 0 2 ∧ ((-1) ≤ (Int32.toInt r) ∧ (Int32.toInt r) ≤ 4)) := by
    intro v1 v2 g L hb_v1 hb_v2 hw_0_2 hn_0 hI hJ k0_0 k0_1
    unfold fX12_best_l9
    refine Ex.loop (fun v => (((-1) ≤ (Int32.toInt (v.1)) ∧ (Int32.toInt (v.1)) ≤ 4)) ∧ ((0 ≤ (Int32.toInt (v.2.1)) ∧ (Int32.toInt (v.2.1)) ≤ 4)) ∧ ((0 ≤ (Int32.toInt ((v.2.2.1) 0 2)) ∧ (Int32.toInt ((v.2.2.1) 0 2)) ≤ 4)) ∧ (((Int32.toInt (v.1)) < (Int32.toInt ((v.2.2.1) 0 2)))) ∧ (zI MT (v.2.2.1)) ∧ (mJ (v.2.2.1)) ∧ ((v.2.2.1) 0 18 = g0 0 18) ∧ ((v.2.2.1) 0 2 = g0 0 2)) (fun v => 5 - (Int32.toInt (v.2.1))) (by omega) (by show 5 - (Int32.toInt v2) < (fu : Int); omega) ⟨hb_v1, hb_v2, hw_0_2, hn_0, hI, hJ, k0_0, k0_1⟩ (fun k9 v hv ih9 => ?_)
    obtain ⟨v1, v2, g, L⟩ := v
    obtain ⟨hb_v1, hb_v2, hw_0_2, hn_0, hI, hJ, k0_0, k0_1⟩ := hv
    have hb_v1 : ((-1) ≤ (Int32.toInt v1) ∧ (Int32.toInt v1) ≤ 4) := hb_v1
    have hb_v2 : (0 ≤ (Int32.toInt v2) ∧ (Int32.toInt v2) ≤ 4) := hb_v2
    have hw_0_2 : (0 ≤ (Int32.toInt (g 0 2)) ∧ (Int32.toInt (g 0 2)) ≤ 4) := hw_0_2
    have hn_0 : ((Int32.toInt v1) < (Int32.toInt (g 0 2))) := hn_0
    have hI : zI MT g := hI
    have hJ : mJ g := hJ
    have k0_0 : g 0 18 = g0 0 18 := k0_0
    have k0_1 : g 0 2 = g0 0 2 := k0_1
    have ih9 : ∀ v' : Int32 × Int32 × (Nat → Nat → Int32) × (Nat → Nat → Int64), ((((-1) ≤ (Int32.toInt (v'.1)) ∧ (Int32.toInt (v'.1)) ≤ 4)) ∧ ((0 ≤ (Int32.toInt (v'.2.1)) ∧ (Int32.toInt (v'.2.1)) ≤ 4)) ∧ ((0 ≤ (Int32.toInt ((v'.2.2.1) 0 2)) ∧ (Int32.toInt ((v'.2.2.1) 0 2)) ≤ 4)) ∧ (((Int32.toInt (v'.1)) < (Int32.toInt ((v'.2.2.1) 0 2)))) ∧ (zI MT (v'.2.2.1)) ∧ (mJ (v'.2.2.1)) ∧ ((v'.2.2.1) 0 18 = g0 0 18) ∧ ((v'.2.2.1) 0 2 = g0 0 2)) → 5 - (Int32.toInt (v'.2.1)) < 5 - (Int32.toInt v2) → 0 < 5 - (Int32.toInt v2) → Ex (k9 v') (fun (r : Int32) (g1 : Nat → Nat → Int32) (L1 : Nat → Nat → Int64) => zI MT g1 ∧ mJ g1 ∧ g1 0 18 = g0 0 18 ∧ g1 0 2 = g0 0 2 ∧ ((-1) ≤ (Int32.toInt r) ∧ (Int32.toInt r) ≤ 4)) := ih9
    show Ex (fX12_best_s9 fu k9 v1 v2 g L) (fun (r : Int32) (g1 : Nat → Nat → Int32) (L1 : Nat → Nat → Int64) => zI MT g1 ∧ mJ g1 ∧ g1 0 18 = g0 0 18 ∧ g1 0 2 = g0 0 2 ∧ ((-1) ≤ (Int32.toInt r) ∧ (Int32.toInt r) ≤ 4))
    unfold fX12_best_s9
    have b3 : 0 ≤ (Int32.toInt (g 0 2)) ∧ (Int32.toInt (g 0 2)) ≤ 4 := hI 0 2 0 4 rfl
    refine Ex.ite (fun c4 => ?_) (fun c4 => ?_)
    ·
      have c4 := icc_le (m := (Int32.toInt (g 0 2))) (n := (Int32.toInt v2)) rfl rfl c4
      exact Ex.ret ⟨hI, hJ, k0_0, k0_1, (by omega)⟩
    ·
      have c4 := icc_nle (m := (Int32.toInt (g 0 2))) (n := (Int32.toInt v2)) rfl rfl c4
      refine Ex.cb (sX12_lostBy fu hfu v2 g L hI hJ (by omega) (by omega)) (fun x5 g6 L7 hq9 => ?_)
      obtain ⟨hI, hJ, kk0, kk1⟩ := hq9
      have hI : zI MT g6 := hI
      have hJ : mJ g6 := hJ
      have w10 : (Int32.toInt (g6 0 2)) = (Int32.toInt (g 0 2)) := congrArg Int32.toInt kk1
      have k0_0 : g6 0 18 = g0 0 18 := kk0.trans k0_0
      have k0_1 : g6 0 2 = g0 0 2 := kk1.trans k0_1
      refine Ex.cb (sX12_lostBy fu hfu v1 g6 L7 hI hJ (by omega) (by omega)) (fun x11 g12 L13 hq15 => ?_)
      obtain ⟨hI, hJ, kk0, kk1⟩ := hq15
      have hI : zI MT g12 := hI
      have hJ : mJ g12 := hJ
      have w16 : (Int32.toInt (g12 0 2)) = (Int32.toInt (g6 0 2)) := congrArg Int32.toInt kk1
      have k0_0 : g12 0 18 = g0 0 18 := kk0.trans k0_0
      have k0_1 : g12 0 2 = g0 0 2 := kk1.trans k0_1
      have J32 : ∀ (v1 : Int32) (g : Nat → Nat → Int32) (L : Nat → Nat → Int64), ((-1) ≤ (Int32.toInt v1) ∧ (Int32.toInt v1) ≤ 4) → (0 ≤ (Int32.toInt v2) ∧ (Int32.toInt v2) ≤ 3) → (1 ≤ (Int32.toInt (g 0 2)) ∧ (Int32.toInt (g 0 2)) ≤ 4) → ((Int32.toInt v1) < (Int32.toInt (g 0 2))) → zI MT g → mJ g → g 0 18 = g0 0 18 → g 0 2 = g0 0 2 → Ex (fX12_best_p32 fu k9 v1 v2 g L) (fun (r : Int32) (g1 : Nat → Nat → Int32) (L1 : Nat → Nat → Int64) => zI MT g1 ∧ mJ g1 ∧ g1 0 18 = g0 0 18 ∧ g1 0 2 = g0 0 2 ∧ ((-1) ≤ (Int32.toInt r) ∧ (Int32.toInt r) ≤ 4)) := by
        intro v1 g L hb_v1 hb_v2 hw_0_2 hn_0 hI hJ k0_0 k0_1
        unfold fX12_best_p32
        generalize z17q : (v2 + 1) = z17
        have e18 : (Int32.toInt z17) = (Int32.toInt v2) + 1 := by rw [← z17q]; exact ic_addc rfl (by decide) (by omega) (by omega)
        exact ih9 (v1, z17, g, L) ⟨(show ((-1) ≤ (Int32.toInt v1) ∧ (Int32.toInt v1) ≤ 4) from by omega), (show (0 ≤ (Int32.toInt z17) ∧ (Int32.toInt z17) ≤ 4) from by omega), (show (0 ≤ (Int32.toInt (g 0 2)) ∧ (Int32.toInt (g 0 2)) ≤ 4) from by omega), (show ((Int32.toInt v1) < (Int32.toInt (g 0 2))) from by omega), hI, hJ, k0_0, k0_1⟩ (by show 5 - (Int32.toInt z17) < _; omega) (by omega)
      refine Ex.ite (fun c19 => ?_) (fun c19 => ?_)
      ·
        have c19 := icc_le (m := (Int32.toInt x11)) (n := (Int32.toInt x5)) rfl rfl c19
        exact J32 v1 g12 L13 (by omega) (by omega) (by omega) (by omega) hI hJ k0_0 k0_1
      ·
        have c19 := icc_nle (m := (Int32.toInt x11)) (n := (Int32.toInt x5)) rfl rfl c19
        exact J32 v2 g12 L13 (by omega) (by omega) (by omega) (by omega) hI hJ k0_0 k0_1
  have hc_ : (0 : Int32).toInt = 0 := by decide
  have hc_ : ((-1) : Int32).toInt = (-1) := by decide
  exact lp9 (-1) 0 g1 L0 (by decide) (by decide) (by omega) (by omega) hI hJ k0_0 k0_1
set_option maxHeartbeats 4000000 in
set_option maxRecDepth 100000 in
theorem sX12_copies_12_42 (fu : Nat) (hfu : 1180591620717411303424 ≤ fu) (g0 : Nat → Nat → Int32) (L0 : Nat → Nat → Int64) (hI : zI MT g0) (hJ : mJ g0) : Ex (fX12_copies_12_42 fu g0 L0) (fun (r : Unit) (g1 : Nat → Nat → Int32) (L1 : Nat → Nat → Int64) => zI MT g1 ∧ mJ g1 ∧ g1 0 18 = g0 0 18 ∧ g1 0 2 = g0 0 2) := by
  have k0_0 : g0 0 18 = g0 0 18 := rfl
  have k0_1 : g0 0 2 = g0 0 2 := rfl
  unfold fX12_copies_12_42
  have lp2 : ∀ (v3 : Int32) (g : Nat → Nat → Int32) (L : Nat → Nat → Int64), (0 ≤ (Int32.toInt v3) ∧ (Int32.toInt v3) ≤ 48) → zI MT g → mJ g → g 0 18 = g0 0 18 → g 0 2 = g0 0 2 → Ex (fX12_copies_12_42_l2 fu v3 g L) (fun (r : Unit) (g1 : Nat → Nat → Int32) (L1 : Nat → Nat → Int64) => zI MT g1 ∧ mJ g1 ∧ g1 0 18 = g0 0 18 ∧ g1 0 2 = g0 0 2) := by
    intro v3 g L hb_v3 hI hJ k0_0 k0_1
    unfold fX12_copies_12_42_l2
    refine Ex.loop (fun v => ((0 ≤ (Int32.toInt (v.1)) ∧ (Int32.toInt (v.1)) ≤ 48)) ∧ (zI MT (v.2.1)) ∧ (mJ (v.2.1)) ∧ ((v.2.1) 0 18 = g0 0 18) ∧ ((v.2.1) 0 2 = g0 0 2)) (fun v => 49 - (Int32.toInt (v.1))) (by omega) (by show 49 - (Int32.toInt v3) < (fu : Int); omega) ⟨hb_v3, hI, hJ, k0_0, k0_1⟩ (fun k2 v hv ih2 => ?_)
    obtain ⟨v3, g, L⟩ := v
    obtain ⟨hb_v3, hI, hJ, k0_0, k0_1⟩ := hv
    have hb_v3 : (0 ≤ (Int32.toInt v3) ∧ (Int32.toInt v3) ≤ 48) := hb_v3
    have hI : zI MT g := hI
    have hJ : mJ g := hJ
    have k0_0 : g 0 18 = g0 0 18 := k0_0
    have k0_1 : g 0 2 = g0 0 2 := k0_1
    have ih2 : ∀ v' : Int32 × (Nat → Nat → Int32) × (Nat → Nat → Int64), (((0 ≤ (Int32.toInt (v'.1)) ∧ (Int32.toInt (v'.1)) ≤ 48)) ∧ (zI MT (v'.2.1)) ∧ (mJ (v'.2.1)) ∧ ((v'.2.1) 0 18 = g0 0 18) ∧ ((v'.2.1) 0 2 = g0 0 2)) → 49 - (Int32.toInt (v'.1)) < 49 - (Int32.toInt v3) → 0 < 49 - (Int32.toInt v3) → Ex (k2 v') (fun (r : Unit) (g1 : Nat → Nat → Int32) (L1 : Nat → Nat → Int64) => zI MT g1 ∧ mJ g1 ∧ g1 0 18 = g0 0 18 ∧ g1 0 2 = g0 0 2) := ih2
    show Ex (fX12_copies_12_42_s2 fu k2 v3 g L) (fun (r : Unit) (g1 : Nat → Nat → Int32) (L1 : Nat → Nat → Int64) => zI MT g1 ∧ mJ g1 ∧ g1 0 18 = g0 0 18 ∧ g1 0 2 = g0 0 2)
    unfold fX12_copies_12_42_s2
    refine Ex.ite (fun c1 => ?_) (fun c1 => ?_)
    ·
      have c1 := icc_le (m := 48) (n := (Int32.toInt v3)) (by decide) rfl c1
      exact Ex.ret ⟨hI, hJ, k0_0, k0_1⟩
    ·
      have c1 := icc_nle (m := 48) (n := (Int32.toInt v3)) (by decide) rfl c1
      refine Ex.ck (by omega) (by omega) ?_
      refine Ex.ck (by omega) (by omega) ?_
      refine Ex.sti (hI.updN rfl) (fun g2 g2e hI => ?_)
      have k0_0 : g2 0 18 = g0 0 18 := by rw [g2e]; exact k0_0
      have k0_1 : g2 0 2 = g0 0 2 := by rw [g2e]; exact k0_1
      have hJ : mJ g2 := by rw [g2e]; exact mJ.upd hJ rfl
      generalize z3q : (v3 + 1) = z3
      have e4 : (Int32.toInt z3) = (Int32.toInt v3) + 1 := by rw [← z3q]; exact ic_addc rfl (by decide) (by omega) (by omega)
      exact ih2 (z3, g2, L) ⟨(show (0 ≤ (Int32.toInt z3) ∧ (Int32.toInt z3) ≤ 48) from by omega), hI, hJ, k0_0, k0_1⟩ (by show 49 - (Int32.toInt z3) < _; omega) (by omega)
  exact lp2 0 g0 L0 (by decide) hI hJ k0_0 k0_1
set_option maxHeartbeats 4000000 in
set_option maxRecDepth 100000 in
theorem sX12_copies_42_12 (fu : Nat) (hfu : 1180591620717411303424 ≤ fu) (g0 : Nat → Nat → Int32) (L0 : Nat → Nat → Int64) (hI : zI MT g0) (hJ : mJ g0) : Ex (fX12_copies_42_12 fu g0 L0) (fun (r : Unit) (g1 : Nat → Nat → Int32) (L1 : Nat → Nat → Int64) => zI MT g1 ∧ mJ g1 ∧ g1 0 18 = g0 0 18 ∧ g1 0 2 = g0 0 2) := by
  have k0_0 : g0 0 18 = g0 0 18 := rfl
  have k0_1 : g0 0 2 = g0 0 2 := rfl
  unfold fX12_copies_42_12
  have lp2 : ∀ (v3 : Int32) (g : Nat → Nat → Int32) (L : Nat → Nat → Int64), (0 ≤ (Int32.toInt v3) ∧ (Int32.toInt v3) ≤ 48) → zI MT g → mJ g → g 0 18 = g0 0 18 → g 0 2 = g0 0 2 → Ex (fX12_copies_42_12_l2 fu v3 g L) (fun (r : Unit) (g1 : Nat → Nat → Int32) (L1 : Nat → Nat → Int64) => zI MT g1 ∧ mJ g1 ∧ g1 0 18 = g0 0 18 ∧ g1 0 2 = g0 0 2) := by
    intro v3 g L hb_v3 hI hJ k0_0 k0_1
    unfold fX12_copies_42_12_l2
    refine Ex.loop (fun v => ((0 ≤ (Int32.toInt (v.1)) ∧ (Int32.toInt (v.1)) ≤ 48)) ∧ (zI MT (v.2.1)) ∧ (mJ (v.2.1)) ∧ ((v.2.1) 0 18 = g0 0 18) ∧ ((v.2.1) 0 2 = g0 0 2)) (fun v => 49 - (Int32.toInt (v.1))) (by omega) (by show 49 - (Int32.toInt v3) < (fu : Int); omega) ⟨hb_v3, hI, hJ, k0_0, k0_1⟩ (fun k2 v hv ih2 => ?_)
    obtain ⟨v3, g, L⟩ := v
    obtain ⟨hb_v3, hI, hJ, k0_0, k0_1⟩ := hv
    have hb_v3 : (0 ≤ (Int32.toInt v3) ∧ (Int32.toInt v3) ≤ 48) := hb_v3
    have hI : zI MT g := hI
    have hJ : mJ g := hJ
    have k0_0 : g 0 18 = g0 0 18 := k0_0
    have k0_1 : g 0 2 = g0 0 2 := k0_1
    have ih2 : ∀ v' : Int32 × (Nat → Nat → Int32) × (Nat → Nat → Int64), (((0 ≤ (Int32.toInt (v'.1)) ∧ (Int32.toInt (v'.1)) ≤ 48)) ∧ (zI MT (v'.2.1)) ∧ (mJ (v'.2.1)) ∧ ((v'.2.1) 0 18 = g0 0 18) ∧ ((v'.2.1) 0 2 = g0 0 2)) → 49 - (Int32.toInt (v'.1)) < 49 - (Int32.toInt v3) → 0 < 49 - (Int32.toInt v3) → Ex (k2 v') (fun (r : Unit) (g1 : Nat → Nat → Int32) (L1 : Nat → Nat → Int64) => zI MT g1 ∧ mJ g1 ∧ g1 0 18 = g0 0 18 ∧ g1 0 2 = g0 0 2) := ih2
    show Ex (fX12_copies_42_12_s2 fu k2 v3 g L) (fun (r : Unit) (g1 : Nat → Nat → Int32) (L1 : Nat → Nat → Int64) => zI MT g1 ∧ mJ g1 ∧ g1 0 18 = g0 0 18 ∧ g1 0 2 = g0 0 2)
    unfold fX12_copies_42_12_s2
    refine Ex.ite (fun c1 => ?_) (fun c1 => ?_)
    ·
      have c1 := icc_le (m := 48) (n := (Int32.toInt v3)) (by decide) rfl c1
      exact Ex.ret ⟨hI, hJ, k0_0, k0_1⟩
    ·
      have c1 := icc_nle (m := 48) (n := (Int32.toInt v3)) (by decide) rfl c1
      refine Ex.ck (by omega) (by omega) ?_
      refine Ex.ck (by omega) (by omega) ?_
      refine Ex.sti (hI.updN rfl) (fun g2 g2e hI => ?_)
      have k0_0 : g2 0 18 = g0 0 18 := by rw [g2e]; exact k0_0
      have k0_1 : g2 0 2 = g0 0 2 := by rw [g2e]; exact k0_1
      have hJ : mJ g2 := by rw [g2e]; exact mJ.upd hJ rfl
      generalize z3q : (v3 + 1) = z3
      have e4 : (Int32.toInt z3) = (Int32.toInt v3) + 1 := by rw [← z3q]; exact ic_addc rfl (by decide) (by omega) (by omega)
      exact ih2 (z3, g2, L) ⟨(show (0 ≤ (Int32.toInt z3) ∧ (Int32.toInt z3) ≤ 48) from by omega), hI, hJ, k0_0, k0_1⟩ (by show 49 - (Int32.toInt z3) < _; omega) (by omega)
  exact lp2 0 g0 L0 (by decide) hI hJ k0_0 k0_1
set_option maxHeartbeats 4000000 in
set_option maxRecDepth 100000 in
theorem sX12_bell (fu : Nat) (hfu : 1180591620717411303424 ≤ fu) (p1 : Int32) (g0 : Nat → Nat → Int32) (L0 : Nat → Nat → Int64) (hI : zI MT g0) (hJ : mJ g0) : Ex (fX12_bell fu p1 g0 L0) (fun (r : Int32) (g1 : Nat → Nat → Int32) (L1 : Nat → Nat → Int64) => zI MT g1 ∧ mJ g1 ∧ g1 0 18 = g0 0 18 ∧ g1 0 2 = g0 0 2) := by
  have k0_0 : g0 0 18 = g0 0 18 := rfl
  have k0_1 : g0 0 2 = g0 0 2 := rfl
  unfold fX12_bell
  refine Ex.sti (hI.updN rfl) (fun g1 g1e hI => ?_)
  have k0_0 : g1 0 18 = g0 0 18 := by rw [g1e]; exact k0_0
  have k0_1 : g1 0 2 = g0 0 2 := by rw [g1e]; exact k0_1
  have hJ : mJ g1 := by rw [g1e]; exact mJ.upd hJ rfl
  refine Ex.cb (sX12_within fu hfu p1 0 60 g1 L0 hI hJ) (fun x2 g3 L4 hq6 => ?_)
  obtain ⟨hI, hJ, kk0, kk1, kk2, kk3, kk4, rb_, ip0⟩ := hq6
  have b7 : 0 ≤ (Int32.toInt x2) ∧ (Int32.toInt x2) ≤ 1 := rb_
  have ip8 : (Int32.toInt x2) = 1 → 0 ≤ (Int32.toInt p1) ∧ (Int32.toInt p1) ≤ 60 := ip0
  have hI : zI MT g3 := hI
  have hJ : mJ g3 := hJ
  have k0_0 : g3 0 18 = g0 0 18 := kk3.trans k0_0
  have k0_1 : g3 0 2 = g0 0 2 := kk4.trans k0_1
  refine Ex.cb (sX12_right fu hfu x2 1 g3 L4 hI hJ (by omega) (by decide)) (fun x9 g10 L11 hq13 => ?_)
  obtain ⟨hI, hJ, kk0, kk1, rb_, ip0⟩ := hq13
  have b14 : 0 ≤ (Int32.toInt x9) ∧ (Int32.toInt x9) ≤ 1 := rb_
  have ip15 : (Int32.toInt x9) = 1 → 1 ≤ (Int32.toInt x2) ∧ (Int32.toInt x2) ≤ 1 := ip0
  have hI : zI MT g10 := hI
  have hJ : mJ g10 := hJ
  have k0_0 : g10 0 18 = g0 0 18 := kk0.trans k0_0
  have k0_1 : g10 0 2 = g0 0 2 := kk1.trans k0_1
  refine Ex.ite (fun c16 => ?_) (fun c16 => ?_)
  ·
    have c16 := icc_eq (m := (Int32.toInt x9)) (n := 0) rfl (by decide) c16
    exact Ex.ret ⟨hI, hJ, k0_0, k0_1⟩
  ·
    have c16 := icc_neq (m := (Int32.toInt x9)) (n := 0) rfl (by decide) c16
    refine Ex.cb (sX12_lost fu hfu g10 L11 hI hJ) (fun x17 g18 L19 hq21 => ?_)
    obtain ⟨hI, hJ, kk0, kk1⟩ := hq21
    have hI : zI MT g18 := hI
    have hJ : mJ g18 := hJ
    have k0_0 : g18 0 18 = g0 0 18 := kk0.trans k0_0
    have k0_1 : g18 0 2 = g0 0 2 := kk1.trans k0_1
    refine Ex.cb (sX12_copies_12_42 fu hfu g18 L19 hI hJ) (fun x22 g23 L24 hq26 => ?_)
    obtain ⟨hI, hJ, kk0, kk1⟩ := hq26
    have hI : zI MT g23 := hI
    have hJ : mJ g23 := hJ
    have k0_0 : g23 0 18 = g0 0 18 := kk0.trans k0_0
    have k0_1 : g23 0 2 = g0 0 2 := kk1.trans k0_1
    have lp41 : ∀ (v1 : Int32) (v2 : Int32) (v3 : Int32) (g : Nat → Nat → Int32) (L : Nat → Nat → Int64), (0 ≤ (Int32.toInt v1) ∧ (Int32.toInt v1) ≤ 60) → (0 ≤ (Int32.toInt v3) ∧ (Int32.toInt v3) ≤ 12) → zI MT g → mJ g → g 0 18 = g0 0 18 → g 0 2 = g0 0 2 → Ex (fX12_bell_l41 fu v1 v2 v3 g L) (fun (r : Int32) (g1 : Nat → Nat → Int32) (L1 : Nat → Nat → Int64) => zI MT g1 ∧ mJ g1 ∧ g1 0 18 = g0 0 18 ∧ g1 0 2 = g0 0 2) := by
      intro v1 v2 v3 g L hb_v1 hb_v3 hI hJ k0_0 k0_1
      unfold fX12_bell_l41
      refine Ex.loop (fun v => ((0 ≤ (Int32.toInt v1) ∧ (Int32.toInt v1) ≤ 60)) ∧ ((0 ≤ (Int32.toInt (v.1)) ∧ (Int32.toInt (v.1)) ≤ 12)) ∧ (zI MT (v.2.1)) ∧ (mJ (v.2.1)) ∧ ((v.2.1) 0 18 = g0 0 18) ∧ ((v.2.1) 0 2 = g0 0 2)) (fun v => 13 - (Int32.toInt (v.1))) (by omega) (by show 13 - (Int32.toInt v3) < (fu : Int); omega) ⟨hb_v1, hb_v3, hI, hJ, k0_0, k0_1⟩ (fun k41 v hv ih41 => ?_)
      obtain ⟨v3, g, L⟩ := v
      obtain ⟨hb_v1, hb_v3, hI, hJ, k0_0, k0_1⟩ := hv
      have hb_v1 : (0 ≤ (Int32.toInt v1) ∧ (Int32.toInt v1) ≤ 60) := hb_v1
      have hb_v3 : (0 ≤ (Int32.toInt v3) ∧ (Int32.toInt v3) ≤ 12) := hb_v3
      have hI : zI MT g := hI
      have hJ : mJ g := hJ
      have k0_0 : g 0 18 = g0 0 18 := k0_0
      have k0_1 : g 0 2 = g0 0 2 := k0_1
      have ih41 : ∀ v' : Int32 × (Nat → Nat → Int32) × (Nat → Nat → Int64), (((0 ≤ (Int32.toInt v1) ∧ (Int32.toInt v1) ≤ 60)) ∧ ((0 ≤ (Int32.toInt (v'.1)) ∧ (Int32.toInt (v'.1)) ≤ 12)) ∧ (zI MT (v'.2.1)) ∧ (mJ (v'.2.1)) ∧ ((v'.2.1) 0 18 = g0 0 18) ∧ ((v'.2.1) 0 2 = g0 0 2)) → 13 - (Int32.toInt (v'.1)) < 13 - (Int32.toInt v3) → 0 < 13 - (Int32.toInt v3) → Ex (k41 v') (fun (r : Int32) (g1 : Nat → Nat → Int32) (L1 : Nat → Nat → Int64) => zI MT g1 ∧ mJ g1 ∧ g1 0 18 = g0 0 18 ∧ g1 0 2 = g0 0 2) := ih41
      show Ex (fX12_bell_s41 fu v1 v2 k41 v3 g L) (fun (r : Int32) (g1 : Nat → Nat → Int32) (L1 : Nat → Nat → Int64) => zI MT g1 ∧ mJ g1 ∧ g1 0 18 = g0 0 18 ∧ g1 0 2 = g0 0 2)
      unfold fX12_bell_s41
      have b27 : 0 ≤ (Int32.toInt (g 0 1)) ∧ (Int32.toInt (g 0 1)) ≤ 12 := hI 0 1 0 12 rfl
      refine Ex.ite (fun c28 => ?_) (fun c28 => ?_)
      ·
        have c28 := icc_le (m := (Int32.toInt (g 0 1))) (n := (Int32.toInt v3)) rfl rfl c28
        refine Ex.cb (sX12_lost fu hfu g L hI hJ) (fun x29 g30 L31 hq33 => ?_)
        obtain ⟨hI, hJ, kk0, kk1⟩ := hq33
        have hI : zI MT g30 := hI
        have hJ : mJ g30 := hJ
        have k0_0 : g30 0 18 = g0 0 18 := kk0.trans k0_0
        have k0_1 : g30 0 2 = g0 0 2 := kk1.trans k0_1
        generalize z34q : (v2 - x29) = z34
        refine Ex.lti (fun x35 x35e x35i => ?_)
        refine Ex.cb (sX12_copies_42_12 fu hfu g30 L31 hI hJ) (fun x36 g37 L38 hq40 => ?_)
        obtain ⟨hI, hJ, kk0, kk1⟩ := hq40
        have hI : zI MT g37 := hI
        have hJ : mJ g37 := hJ
        have k0_0 : g37 0 18 = g0 0 18 := kk0.trans k0_0
        have k0_1 : g37 0 2 = g0 0 2 := kk1.trans k0_1
        exact Ex.ret ⟨hI, hJ, k0_0, k0_1⟩
      ·
        have c28 := icc_nle (m := (Int32.toInt (g 0 1))) (n := (Int32.toInt v3)) rfl rfl c28
        generalize z41q : (0 + v3) = z41
        have e42 : (Int32.toInt z41) = 0 + (Int32.toInt v3) := by rw [← z41q]; exact ic_addc (by decide) rfl (by omega) (by omega)
        refine Ex.ck (by omega) (by omega) ?_
        have J70 : ∀ (g : Nat → Nat → Int32) (L : Nat → Nat → Int64), (0 ≤ (Int32.toInt v1) ∧ (Int32.toInt v1) ≤ 60) → (0 ≤ (Int32.toInt v3) ∧ (Int32.toInt v3) ≤ 11) → zI MT g → mJ g → g 0 18 = g0 0 18 → g 0 2 = g0 0 2 → Ex (fX12_bell_p70 fu k41 v1 v2 v3 g L) (fun (r : Int32) (g1 : Nat → Nat → Int32) (L1 : Nat → Nat → Int64) => zI MT g1 ∧ mJ g1 ∧ g1 0 18 = g0 0 18 ∧ g1 0 2 = g0 0 2) := by
          intro g L hb_v1 hb_v3 hI hJ k0_0 k0_1
          unfold fX12_bell_p70
          generalize z43q : (v3 + 1) = z43
          have e44 : (Int32.toInt z43) = (Int32.toInt v3) + 1 := by rw [← z43q]; exact ic_addc rfl (by decide) (by omega) (by omega)
          exact ih41 (z43, g, L) ⟨(show (0 ≤ (Int32.toInt v1) ∧ (Int32.toInt v1) ≤ 60) from by omega), (show (0 ≤ (Int32.toInt z43) ∧ (Int32.toInt z43) ≤ 12) from by omega), hI, hJ, k0_0, k0_1⟩ (by show 13 - (Int32.toInt z43) < _; omega) (by omega)
        refine Ex.ite (fun c45 => ?_) (fun c45 => ?_)
        ·
          have c45 := icc_le (m := (Int32.toInt (g 12 (Int32.toNatClampNeg z41)))) (n := (Int32.toInt v1)) rfl rfl c45
          exact J70 g L (by omega) (by omega) hI hJ k0_0 k0_1
        ·
          have c45 := icc_nle (m := (Int32.toInt (g 12 (Int32.toNatClampNeg z41)))) (n := (Int32.toInt v1)) rfl rfl c45
          have e46 : (Int32.toInt z41) = 0 + (Int32.toInt v3) := by rw [← z41q]; exact ic_addc (by decide) rfl (by omega) (by omega)
          refine Ex.ck (by omega) (by omega) ?_
          refine Ex.sti (hI.updN rfl) (fun g47 g47e hI => ?_)
          have k0_0 : g47 0 18 = g0 0 18 := by rw [g47e]; exact k0_0
          have k0_1 : g47 0 2 = g0 0 2 := by rw [g47e]; exact k0_1
          have hJ : mJ g47 := by rw [g47e]; exact mJ.upd hJ rfl
          exact J70 g47 L (by omega) (by omega) hI hJ k0_0 k0_1
    exact lp41 p1 x17 0 g23 L24 (by omega) (by decide) hI hJ k0_0 k0_1
set_option maxHeartbeats 4000000 in
set_option maxRecDepth 100000 in
theorem sX12_harm (fu : Nat) (hfu : 1180591620717411303424 ≤ fu) (p1 : Int32) (p2 : Int32) (g0 : Nat → Nat → Int32) (L0 : Nat → Nat → Int64) (hI : zI MT g0) (hJ : mJ g0) : Ex (fX12_harm fu p1 p2 g0 L0) (fun (r : Int32) (g1 : Nat → Nat → Int32) (L1 : Nat → Nat → Int64) => zI MT g1 ∧ mJ g1 ∧ g1 0 18 = g0 0 18 ∧ g1 0 2 = g0 0 2) := by
  have k0_0 : g0 0 18 = g0 0 18 := rfl
  have k0_1 : g0 0 2 = g0 0 2 := rfl
  unfold fX12_harm
  refine Ex.sti (hI.updN rfl) (fun g1 g1e hI => ?_)
  have k0_0 : g1 0 18 = g0 0 18 := by rw [g1e]; exact k0_0
  have k0_1 : g1 0 2 = g0 0 2 := by rw [g1e]; exact k0_1
  have hJ : mJ g1 := by rw [g1e]; exact mJ.upd hJ rfl
  refine Ex.cb (sX12_isLesson fu hfu p1 g1 L0 hI hJ) (fun x2 g3 L4 hq6 => ?_)
  obtain ⟨hI, hJ, kk0, kk1, rb_, ip0⟩ := hq6
  have b7 : 0 ≤ (Int32.toInt x2) ∧ (Int32.toInt x2) ≤ 1 := rb_
  have ip8 : (Int32.toInt x2) = 1 → 0 ≤ (Int32.toInt p1) ∧ (Int32.toInt p1) ≤ 11 := ip0
  have hI : zI MT g3 := hI
  have hJ : mJ g3 := hJ
  have k0_0 : g3 0 18 = g0 0 18 := kk0.trans k0_0
  have k0_1 : g3 0 2 = g0 0 2 := kk1.trans k0_1
  have J21 : ∀ (g : Nat → Nat → Int32) (L : Nat → Nat → Int64), zI MT g → mJ g → g 0 18 = g0 0 18 → g 0 2 = g0 0 2 → Ex (fX12_harm_p21 fu g L) (fun (r : Int32) (g1 : Nat → Nat → Int32) (L1 : Nat → Nat → Int64) => zI MT g1 ∧ mJ g1 ∧ g1 0 18 = g0 0 18 ∧ g1 0 2 = g0 0 2) := by
    intro g L hI hJ k0_0 k0_1
    unfold fX12_harm_p21
    exact Ex.ret ⟨hI, hJ, k0_0, k0_1⟩
  refine Ex.ite (fun c9 => ?_) (fun c9 => ?_)
  ·
    have c9 := icc_eq (m := (Int32.toInt x2)) (n := 0) rfl (by decide) c9
    exact J21 g3 L4 hI hJ k0_0 k0_1
  ·
    have c9 := icc_neq (m := (Int32.toInt x2)) (n := 0) rfl (by decide) c9
    refine Ex.cb (sX12_isLesson fu hfu p2 g3 L4 hI hJ) (fun x10 g11 L12 hq14 => ?_)
    obtain ⟨hI, hJ, kk0, kk1, rb_, ip0⟩ := hq14
    have b15 : 0 ≤ (Int32.toInt x10) ∧ (Int32.toInt x10) ≤ 1 := rb_
    have ip16 : (Int32.toInt x10) = 1 → 0 ≤ (Int32.toInt p2) ∧ (Int32.toInt p2) ≤ 11 := ip0
    have hI : zI MT g11 := hI
    have hJ : mJ g11 := hJ
    have k0_0 : g11 0 18 = g0 0 18 := kk0.trans k0_0
    have k0_1 : g11 0 2 = g0 0 2 := kk1.trans k0_1
    refine Ex.ite (fun c17 => ?_) (fun c17 => ?_)
    ·
      have c17 := icc_eq (m := (Int32.toInt x10)) (n := 0) rfl (by decide) c17
      exact J21 g11 L12 hI hJ k0_0 k0_1
    ·
      have c17 := icc_neq (m := (Int32.toInt x10)) (n := 0) rfl (by decide) c17
      refine Ex.cb (sX12_works0 fu hfu g11 L12 hI hJ) (fun x18 g19 L20 hq22 => ?_)
      obtain ⟨hI, hJ, kk0, kk1⟩ := hq22
      have hI : zI MT g19 := hI
      have hJ : mJ g19 := hJ
      have k0_0 : g19 0 18 = g0 0 18 := kk0.trans k0_0
      have k0_1 : g19 0 2 = g0 0 2 := kk1.trans k0_1
      refine Ex.cb (sX12_late fu hfu p2 g19 L20 hI hJ (by omega)) (fun x23 g24 L25 hq27 => ?_)
      obtain ⟨hI, hJ, kk0, kk1⟩ := hq27
      have hI : zI MT g24 := hI
      have hJ : mJ g24 := hJ
      have k0_0 : g24 0 18 = g0 0 18 := kk0.trans k0_0
      have k0_1 : g24 0 2 = g0 0 2 := kk1.trans k0_1
      generalize z28q : (0 + p1) = z28
      have e29 : (Int32.toInt z28) = 0 + (Int32.toInt p1) := by rw [← z28q]; exact ic_addc (by decide) rfl (by omega) (by omega)
      refine Ex.ck (by omega) (by omega) ?_
      refine Ex.lti (fun x30 x30e x30i => ?_)
      have e31 : (Int32.toInt z28) = 0 + (Int32.toInt p1) := by rw [← z28q]; exact ic_addc (by decide) rfl (by omega) (by omega)
      refine Ex.ck (by omega) (by omega) ?_
      refine Ex.sti (hI.updN rfl) (fun g32 g32e hI => ?_)
      have k0_0 : g32 0 18 = g0 0 18 := by rw [g32e]; exact k0_0
      have k0_1 : g32 0 2 = g0 0 2 := by rw [g32e]; exact k0_1
      have hJ : mJ g32 := by rw [g32e]; exact mJ.upd hJ rfl
      refine Ex.cb (sX12_works0 fu hfu g32 L25 hI hJ) (fun x33 g34 L35 hq37 => ?_)
      obtain ⟨hI, hJ, kk0, kk1⟩ := hq37
      have hI : zI MT g34 := hI
      have hJ : mJ g34 := hJ
      have k0_0 : g34 0 18 = g0 0 18 := kk0.trans k0_0
      have k0_1 : g34 0 2 = g0 0 2 := kk1.trans k0_1
      have e38 : (Int32.toInt z28) = 0 + (Int32.toInt p1) := by rw [← z28q]; exact ic_addc (by decide) rfl (by omega) (by omega)
      refine Ex.ck (by omega) (by omega) ?_
      refine Ex.sti (hI.updN rfl) (fun g39 g39e hI => ?_)
      have k0_0 : g39 0 18 = g0 0 18 := by rw [g39e]; exact k0_0
      have k0_1 : g39 0 2 = g0 0 2 := by rw [g39e]; exact k0_1
      have hJ : mJ g39 := by rw [g39e]; exact mJ.upd hJ rfl
      refine Ex.cb (sX12_late fu hfu p2 g39 L35 hI hJ (by omega)) (fun x40 g41 L42 hq44 => ?_)
      obtain ⟨hI, hJ, kk0, kk1⟩ := hq44
      have hI : zI MT g41 := hI
      have hJ : mJ g41 := hJ
      have k0_0 : g41 0 18 = g0 0 18 := kk0.trans k0_0
      have k0_1 : g41 0 2 = g0 0 2 := kk1.trans k0_1
      generalize z45q : (x23 - x40) = z45
      exact Ex.ret ⟨hI, hJ, k0_0, k0_1⟩
set_option maxHeartbeats 4000000 in
set_option maxRecDepth 100000 in
theorem sX12_pair (fu : Nat) (hfu : 1180591620717411303424 ≤ fu) (p1 : Int32) (g0 : Nat → Nat → Int32) (L0 : Nat → Nat → Int64) (hI : zI MT g0) (hJ : mJ g0) : Ex (fX12_pair fu p1 g0 L0) (fun (r : Int32) (g1 : Nat → Nat → Int32) (L1 : Nat → Nat → Int64) => zI MT g1 ∧ mJ g1 ∧ g1 0 18 = g0 0 18 ∧ g1 0 2 = g0 0 2) := by
  have k0_0 : g0 0 18 = g0 0 18 := rfl
  have k0_1 : g0 0 2 = g0 0 2 := rfl
  unfold fX12_pair
  refine Ex.sti (hI.updN rfl) (fun g1 g1e hI => ?_)
  have k0_0 : g1 0 18 = g0 0 18 := by rw [g1e]; exact k0_0
  have k0_1 : g1 0 2 = g0 0 2 := by rw [g1e]; exact k0_1
  have hJ : mJ g1 := by rw [g1e]; exact mJ.upd hJ rfl
  refine Ex.cb (sX12_isWhat fu hfu p1 1 g1 L0 hI hJ) (fun x2 g3 L4 hq6 => ?_)
  obtain ⟨hI, hJ, kk0, kk1, rb_, ip0⟩ := hq6
  have b7 : 0 ≤ (Int32.toInt x2) ∧ (Int32.toInt x2) ≤ 1 := rb_
  have ip8 : (Int32.toInt x2) = 1 → 0 ≤ (Int32.toInt p1) ∧ (Int32.toInt p1) ≤ 1 := ip0
  have hI : zI MT g3 := hI
  have hJ : mJ g3 := hJ
  have k0_0 : g3 0 18 = g0 0 18 := kk0.trans k0_0
  have k0_1 : g3 0 2 = g0 0 2 := kk1.trans k0_1
  refine Ex.ite (fun c9 => ?_) (fun c9 => ?_)
  ·
    have c9 := icc_eq (m := (Int32.toInt x2)) (n := 0) rfl (by decide) c9
    exact Ex.ret ⟨hI, hJ, k0_0, k0_1⟩
  ·
    have c9 := icc_neq (m := (Int32.toInt x2)) (n := 0) rfl (by decide) c9
    refine Ex.cb (sX12_copies_12_42 fu hfu g3 L4 hI hJ) (fun x10 g11 L12 hq14 => ?_)
    obtain ⟨hI, hJ, kk0, kk1⟩ := hq14
    have hI : zI MT g11 := hI
    have hJ : mJ g11 := hJ
    have k0_0 : g11 0 18 = g0 0 18 := kk0.trans k0_0
    have k0_1 : g11 0 2 = g0 0 2 := kk1.trans k0_1
    have lp35 : ∀ (v1 : Int32) (v2 : Int32) (v3 : Int32) (v4 : Int32) (g : Nat → Nat → Int32) (L : Nat → Nat → Int64), (0 ≤ (Int32.toInt v1) ∧ (Int32.toInt v1) ≤ 1) → ((-1) ≤ (Int32.toInt v2) ∧ (Int32.toInt v2) ≤ 1899) → (0 ≤ (Int32.toInt v4) ∧ (Int32.toInt v4) ≤ 12) → zI MT g → mJ g → g 0 18 = g0 0 18 → g 0 2 = g0 0 2 → Ex (fX12_pair_l35 fu v1 v2 v3 v4 g L) (fun (r : Int32) (g1 : Nat → Nat → Int32) (L1 : Nat → Nat → Int64) => zI MT g1 ∧ mJ g1 ∧ g1 0 18 = g0 0 18 ∧ g1 0 2 = g0 0 2) := by
      intro v1 v2 v3 v4 g L hb_v1 hb_v2 hb_v4 hI hJ k0_0 k0_1
      unfold fX12_pair_l35
      refine Ex.loop (fun v => ((0 ≤ (Int32.toInt v1) ∧ (Int32.toInt v1) ≤ 1)) ∧ (((-1) ≤ (Int32.toInt (v.1)) ∧ (Int32.toInt (v.1)) ≤ 1899)) ∧ ((0 ≤ (Int32.toInt (v.2.2.1)) ∧ (Int32.toInt (v.2.2.1)) ≤ 12)) ∧ (zI MT (v.2.2.2.1)) ∧ (mJ (v.2.2.2.1)) ∧ ((v.2.2.2.1) 0 18 = g0 0 18) ∧ ((v.2.2.2.1) 0 2 = g0 0 2)) (fun v => 13 - (Int32.toInt (v.2.2.1))) (by omega) (by show 13 - (Int32.toInt v4) < (fu : Int); omega) ⟨hb_v1, hb_v2, hb_v4, hI, hJ, k0_0, k0_1⟩ (fun k35 v hv ih35 => ?_)
      obtain ⟨v2, v3, v4, g, L⟩ := v
      obtain ⟨hb_v1, hb_v2, hb_v4, hI, hJ, k0_0, k0_1⟩ := hv
      have hb_v1 : (0 ≤ (Int32.toInt v1) ∧ (Int32.toInt v1) ≤ 1) := hb_v1
      have hb_v2 : ((-1) ≤ (Int32.toInt v2) ∧ (Int32.toInt v2) ≤ 1899) := hb_v2
      have hb_v4 : (0 ≤ (Int32.toInt v4) ∧ (Int32.toInt v4) ≤ 12) := hb_v4
      have hI : zI MT g := hI
      have hJ : mJ g := hJ
      have k0_0 : g 0 18 = g0 0 18 := k0_0
      have k0_1 : g 0 2 = g0 0 2 := k0_1
      have ih35 : ∀ v' : Int32 × Int32 × Int32 × (Nat → Nat → Int32) × (Nat → Nat → Int64), (((0 ≤ (Int32.toInt v1) ∧ (Int32.toInt v1) ≤ 1)) ∧ (((-1) ≤ (Int32.toInt (v'.1)) ∧ (Int32.toInt (v'.1)) ≤ 1899)) ∧ ((0 ≤ (Int32.toInt (v'.2.2.1)) ∧ (Int32.toInt (v'.2.2.1)) ≤ 12)) ∧ (zI MT (v'.2.2.2.1)) ∧ (mJ (v'.2.2.2.1)) ∧ ((v'.2.2.2.1) 0 18 = g0 0 18) ∧ ((v'.2.2.2.1) 0 2 = g0 0 2)) → 13 - (Int32.toInt (v'.2.2.1)) < 13 - (Int32.toInt v4) → 0 < 13 - (Int32.toInt v4) → Ex (k35 v') (fun (r : Int32) (g1 : Nat → Nat → Int32) (L1 : Nat → Nat → Int64) => zI MT g1 ∧ mJ g1 ∧ g1 0 18 = g0 0 18 ∧ g1 0 2 = g0 0 2) := ih35
      show Ex (fX12_pair_s35 fu v1 k35 v2 v3 v4 g L) (fun (r : Int32) (g1 : Nat → Nat → Int32) (L1 : Nat → Nat → Int64) => zI MT g1 ∧ mJ g1 ∧ g1 0 18 = g0 0 18 ∧ g1 0 2 = g0 0 2)
      unfold fX12_pair_s35
      have b15 : 0 ≤ (Int32.toInt (g 0 1)) ∧ (Int32.toInt (g 0 1)) ≤ 12 := hI 0 1 0 12 rfl
      refine Ex.ite (fun c16 => ?_) (fun c16 => ?_)
      ·
        have c16 := icc_le (m := (Int32.toInt (g 0 1))) (n := (Int32.toInt v4)) rfl rfl c16
        have J149 : ∀ (t0 : Int32) (g : Nat → Nat → Int32) (L : Nat → Nat → Int64), zI MT g → mJ g → g 0 18 = g0 0 18 → g 0 2 = g0 0 2 → Ex (fX12_pair_p149 fu t0 g L) (fun (r : Int32) (g1 : Nat → Nat → Int32) (L1 : Nat → Nat → Int64) => zI MT g1 ∧ mJ g1 ∧ g1 0 18 = g0 0 18 ∧ g1 0 2 = g0 0 2) := by
          intro t0 g L hI hJ k0_0 k0_1
          unfold fX12_pair_p149
          exact Ex.ret ⟨hI, hJ, k0_0, k0_1⟩
        have J144 : ∀ (v2 : Int32) (g : Nat → Nat → Int32) (L : Nat → Nat → Int64), ((-1) ≤ (Int32.toInt v2) ∧ (Int32.toInt v2) ≤ 1899) → zI MT g → mJ g → g 0 18 = g0 0 18 → g 0 2 = g0 0 2 → Ex (fX12_pair_p144 fu v2 g L) (fun (r : Int32) (g1 : Nat → Nat → Int32) (L1 : Nat → Nat → Int64) => zI MT g1 ∧ mJ g1 ∧ g1 0 18 = g0 0 18 ∧ g1 0 2 = g0 0 2) := by
          intro v2 g L hb_v2 hI hJ k0_0 k0_1
          unfold fX12_pair_p144
          exact J149 v2 g L hI hJ k0_0 k0_1
        refine Ex.ite (fun c17 => ?_) (fun c17 => ?_)
        ·
          have c17 := icc_eq (m := (Int32.toInt v2)) (n := (-1)) rfl (by decide) c17
          exact J144 v2 g L (by omega) hI hJ k0_0 k0_1
        ·
          have c17 := icc_neq (m := (Int32.toInt v2)) (n := (-1)) rfl (by decide) c17
          refine Ex.ite (fun c18 => ?_) (fun c18 => ?_)
          ·
            have c18 := icc_eq (m := (Int32.toInt v1)) (n := 0) rfl (by decide) c18
            exact J144 v2 g L (by omega) hI hJ k0_0 k0_1
          ·
            have c18 := icc_neq (m := (Int32.toInt v1)) (n := 0) rfl (by decide) c18
            exact J149 v3 g L hI hJ k0_0 k0_1
      ·
        have c16 := icc_nle (m := (Int32.toInt (g 0 1))) (n := (Int32.toInt v4)) rfl rfl c16
        generalize z19q : (v4 + 1) = z19
        have e20 : (Int32.toInt z19) = (Int32.toInt v4) + 1 := by rw [← z19q]; exact ic_addc rfl (by decide) (by omega) (by omega)
        refine Ex.lti (fun x21 x21e x21i => ?_)
        have lp50 : ∀ (v2 : Int32) (v3 : Int32) (v5 : Int32) (g : Nat → Nat → Int32) (L : Nat → Nat → Int64), (0 ≤ (Int32.toInt v1) ∧ (Int32.toInt v1) ≤ 1) → ((-1) ≤ (Int32.toInt v2) ∧ (Int32.toInt v2) ≤ 1899) → (0 ≤ (Int32.toInt v4) ∧ (Int32.toInt v4) ≤ 11) → (1 ≤ (Int32.toInt v5) ∧ (Int32.toInt v5) ≤ 12) → zI MT g → mJ g → g 0 18 = g0 0 18 → g 0 2 = g0 0 2 → Ex (fX12_pair_l50 fu k35 v1 v4 v2 v3 v5 g L) (fun (r : Int32) (g1 : Nat → Nat → Int32) (L1 : Nat → Nat → Int64) => zI MT g1 ∧ mJ g1 ∧ g1 0 18 = g0 0 18 ∧ g1 0 2 = g0 0 2) := by
          intro v2 v3 v5 g L hb_v1 hb_v2 hb_v4 hb_v5 hI hJ k0_0 k0_1
          unfold fX12_pair_l50
          refine Ex.loop (fun v => ((0 ≤ (Int32.toInt v1) ∧ (Int32.toInt v1) ≤ 1)) ∧ (((-1) ≤ (Int32.toInt (v.1)) ∧ (Int32.toInt (v.1)) ≤ 1899)) ∧ ((0 ≤ (Int32.toInt v4) ∧ (Int32.toInt v4) ≤ 11)) ∧ ((1 ≤ (Int32.toInt (v.2.2.1)) ∧ (Int32.toInt (v.2.2.1)) ≤ 12)) ∧ (zI MT (v.2.2.2.1)) ∧ (mJ (v.2.2.2.1)) ∧ ((v.2.2.2.1) 0 18 = g0 0 18) ∧ ((v.2.2.2.1) 0 2 = g0 0 2)) (fun v => 13 - (Int32.toInt (v.2.2.1))) (by omega) (by show 13 - (Int32.toInt v5) < (fu : Int); omega) ⟨hb_v1, hb_v2, hb_v4, hb_v5, hI, hJ, k0_0, k0_1⟩ (fun k50 v hv ih50 => ?_)
          obtain ⟨v2, v3, v5, g, L⟩ := v
          obtain ⟨hb_v1, hb_v2, hb_v4, hb_v5, hI, hJ, k0_0, k0_1⟩ := hv
          have hb_v1 : (0 ≤ (Int32.toInt v1) ∧ (Int32.toInt v1) ≤ 1) := hb_v1
          have hb_v2 : ((-1) ≤ (Int32.toInt v2) ∧ (Int32.toInt v2) ≤ 1899) := hb_v2
          have hb_v4 : (0 ≤ (Int32.toInt v4) ∧ (Int32.toInt v4) ≤ 11) := hb_v4
          have hb_v5 : (1 ≤ (Int32.toInt v5) ∧ (Int32.toInt v5) ≤ 12) := hb_v5
          have hI : zI MT g := hI
          have hJ : mJ g := hJ
          have k0_0 : g 0 18 = g0 0 18 := k0_0
          have k0_1 : g 0 2 = g0 0 2 := k0_1
          have ih50 : ∀ v' : Int32 × Int32 × Int32 × (Nat → Nat → Int32) × (Nat → Nat → Int64), (((0 ≤ (Int32.toInt v1) ∧ (Int32.toInt v1) ≤ 1)) ∧ (((-1) ≤ (Int32.toInt (v'.1)) ∧ (Int32.toInt (v'.1)) ≤ 1899)) ∧ ((0 ≤ (Int32.toInt v4) ∧ (Int32.toInt v4) ≤ 11)) ∧ ((1 ≤ (Int32.toInt (v'.2.2.1)) ∧ (Int32.toInt (v'.2.2.1)) ≤ 12)) ∧ (zI MT (v'.2.2.2.1)) ∧ (mJ (v'.2.2.2.1)) ∧ ((v'.2.2.2.1) 0 18 = g0 0 18) ∧ ((v'.2.2.2.1) 0 2 = g0 0 2)) → 13 - (Int32.toInt (v'.2.2.1)) < 13 - (Int32.toInt v5) → 0 < 13 - (Int32.toInt v5) → Ex (k50 v') (fun (r : Int32) (g1 : Nat → Nat → Int32) (L1 : Nat → Nat → Int64) => zI MT g1 ∧ mJ g1 ∧ g1 0 18 = g0 0 18 ∧ g1 0 2 = g0 0 2) := ih50
          show Ex (fX12_pair_s50 fu k35 v1 v4 k50 v2 v3 v5 g L) (fun (r : Int32) (g1 : Nat → Nat → Int32) (L1 : Nat → Nat → Int64) => zI MT g1 ∧ mJ g1 ∧ g1 0 18 = g0 0 18 ∧ g1 0 2 = g0 0 2)
          unfold fX12_pair_s50
          have b22 : 0 ≤ (Int32.toInt (g 0 1)) ∧ (Int32.toInt (g 0 1)) ≤ 12 := hI 0 1 0 12 rfl
          refine Ex.ite (fun c23 => ?_) (fun c23 => ?_)
          ·
            have c23 := icc_le (m := (Int32.toInt (g 0 1))) (n := (Int32.toInt v5)) rfl rfl c23
            generalize z24q : (v4 + 1) = z24
            have e25 : (Int32.toInt z24) = (Int32.toInt v4) + 1 := by rw [← z24q]; exact ic_addc rfl (by decide) (by omega) (by omega)
            exact ih35 (v2, v3, z24, g, L) ⟨(show (0 ≤ (Int32.toInt v1) ∧ (Int32.toInt v1) ≤ 1) from by omega), (show ((-1) ≤ (Int32.toInt v2) ∧ (Int32.toInt v2) ≤ 1899) from by omega), (show (0 ≤ (Int32.toInt z24) ∧ (Int32.toInt z24) ≤ 12) from by omega), hI, hJ, k0_0, k0_1⟩ (by show 13 - (Int32.toInt z24) < _; omega) (by omega)
          ·
            have c23 := icc_nle (m := (Int32.toInt (g 0 1))) (n := (Int32.toInt v5)) rfl rfl c23
            generalize z26q : (0 + v4) = z26
            have e27 : (Int32.toInt z26) = 0 + (Int32.toInt v4) := by rw [← z26q]; exact ic_addc (by decide) rfl (by omega) (by omega)
            refine Ex.ck (by omega) (by omega) ?_
            refine Ex.sti (hI.updN rfl) (fun g28 g28e hI => ?_)
            have k0_0 : g28 0 18 = g0 0 18 := by rw [g28e]; exact k0_0
            have k0_1 : g28 0 2 = g0 0 2 := by rw [g28e]; exact k0_1
            have hJ : mJ g28 := by rw [g28e]; exact mJ.upd hJ rfl
            generalize z29q : (0 + v5) = z29
            have e30 : (Int32.toInt z29) = 0 + (Int32.toInt v5) := by rw [← z29q]; exact ic_addc (by decide) rfl (by omega) (by omega)
            refine Ex.ck (by omega) (by omega) ?_
            refine Ex.sti (hI.updN rfl) (fun g31 g31e hI => ?_)
            have k0_0 : g31 0 18 = g0 0 18 := by rw [g31e]; exact k0_0
            have k0_1 : g31 0 2 = g0 0 2 := by rw [g31e]; exact k0_1
            have hJ : mJ g31 := by rw [g31e]; exact mJ.upd hJ rfl
            refine Ex.cb (sX12_lost fu hfu g31 L hI hJ) (fun x32 g33 L34 hq36 => ?_)
            obtain ⟨hI, hJ, kk0, kk1⟩ := hq36
            have hI : zI MT g33 := hI
            have hJ : mJ g33 := hJ
            have k0_0 : g33 0 18 = g0 0 18 := kk0.trans k0_0
            have k0_1 : g33 0 2 = g0 0 2 := kk1.trans k0_1
            refine Ex.cb (sX12_copies_42_12 fu hfu g33 L34 hI hJ) (fun x37 g38 L39 hq41 => ?_)
            obtain ⟨hI, hJ, kk0, kk1⟩ := hq41
            have hI : zI MT g38 := hI
            have hJ : mJ g38 := hJ
            have k0_0 : g38 0 18 = g0 0 18 := kk0.trans k0_0
            have k0_1 : g38 0 2 = g0 0 2 := kk1.trans k0_1
            have J123 : ∀ (v2 : Int32) (v3 : Int32) (g : Nat → Nat → Int32) (L : Nat → Nat → Int64), (0 ≤ (Int32.toInt v1) ∧ (Int32.toInt v1) ≤ 1) → (0 ≤ (Int32.toInt v2) ∧ (Int32.toInt v2) ≤ 1899) → (0 ≤ (Int32.toInt v4) ∧ (Int32.toInt v4) ≤ 11) → (1 ≤ (Int32.toInt v5) ∧ (Int32.toInt v5) ≤ 11) → zI MT g → mJ g → g 0 18 = g0 0 18 → g 0 2 = g0 0 2 → Ex (fX12_pair_p123 fu k35 k50 v1 v2 v3 v4 v5 g L) (fun (r : Int32) (g1 : Nat → Nat → Int32) (L1 : Nat → Nat → Int64) => zI MT g1 ∧ mJ g1 ∧ g1 0 18 = g0 0 18 ∧ g1 0 2 = g0 0 2) := by
              intro v2 v3 g L hb_v1 hb_v2 hb_v4 hb_v5 hI hJ k0_0 k0_1
              unfold fX12_pair_p123
              generalize z42q : (v5 + 1) = z42
              have e43 : (Int32.toInt z42) = (Int32.toInt v5) + 1 := by rw [← z42q]; exact ic_addc rfl (by decide) (by omega) (by omega)
              exact ih50 (v2, v3, z42, g, L) ⟨(show (0 ≤ (Int32.toInt v1) ∧ (Int32.toInt v1) ≤ 1) from by omega), (show ((-1) ≤ (Int32.toInt v2) ∧ (Int32.toInt v2) ≤ 1899) from by omega), (show (0 ≤ (Int32.toInt v4) ∧ (Int32.toInt v4) ≤ 11) from by omega), (show (1 ≤ (Int32.toInt z42) ∧ (Int32.toInt z42) ≤ 12) from by omega), hI, hJ, k0_0, k0_1⟩ (by show 13 - (Int32.toInt z42) < _; omega) (by omega)
            have J111 : ∀ (v6 : Int32) (g : Nat → Nat → Int32) (L : Nat → Nat → Int64), (0 ≤ (Int32.toInt v1) ∧ (Int32.toInt v1) ≤ 1) → (0 ≤ (Int32.toInt v4) ∧ (Int32.toInt v4) ≤ 11) → (1 ≤ (Int32.toInt v5) ∧ (Int32.toInt v5) ≤ 11) → zI MT g → mJ g → g 0 18 = g0 0 18 → g 0 2 = g0 0 2 → Ex (fX12_pair_p111 fu k35 k50 v1 v4 v5 v6 g L) (fun (r : Int32) (g1 : Nat → Nat → Int32) (L1 : Nat → Nat → Int64) => zI MT g1 ∧ mJ g1 ∧ g1 0 18 = g0 0 18 ∧ g1 0 2 = g0 0 2) := by
              intro v6 g L hb_v1 hb_v4 hb_v5 hI hJ k0_0 k0_1
              unfold fX12_pair_p111
              generalize z44q : (100 * v4) = z44
              have e45 : (Int32.toInt z44) = 100 * (Int32.toInt v4) := by rw [← z44q]; exact ic_mulc (by decide) rfl (by omega) (by omega)
              generalize z46q : (z44 + v5) = z46
              have e47 : (Int32.toInt z46) = (Int32.toInt z44) + (Int32.toInt v5) := by rw [← z46q]; exact ic_addc rfl rfl (by omega) (by omega)
              refine Ex.lti (fun x48 x48e x48i => ?_)
              exact J123 x48 v6 g L (by omega) (by omega) (by omega) (by omega) hI hJ k0_0 k0_1
            refine Ex.ite (fun c49 => ?_) (fun c49 => ?_)
            ·
              have c49 := icc_eq (m := (Int32.toInt v2)) (n := (-1)) rfl (by decide) c49
              exact J111 x32 g38 L39 (by omega) (by omega) (by omega) hI hJ k0_0 k0_1
            ·
              have c49 := icc_neq (m := (Int32.toInt v2)) (n := (-1)) rfl (by decide) c49
              refine Ex.ite (fun c50 => ?_) (fun c50 => ?_)
              ·
                have c50 := icc_lt (m := (Int32.toInt x32)) (n := (Int32.toInt v3)) rfl rfl c50
                exact J111 x32 g38 L39 (by omega) (by omega) (by omega) hI hJ k0_0 k0_1
              ·
                have c50 := icc_nlt (m := (Int32.toInt x32)) (n := (Int32.toInt v3)) rfl rfl c50
                exact J123 v2 v3 g38 L39 (by omega) (by omega) (by omega) (by omega) hI hJ k0_0 k0_1
        exact lp50 v2 v3 x21 g L (by omega) (by omega) (by omega) (by omega) hI hJ k0_0 k0_1
    exact lp35 p1 (-1) 0 0 g11 L12 (by omega) (by decide) (by decide) hI hJ k0_0 k0_1
set_option maxHeartbeats 4000000 in
set_option maxRecDepth 100000 in
theorem sX12_pause (fu : Nat) (hfu : 1180591620717411303424 ≤ fu) (p1 : Int32) (p2 : Int32) (g0 : Nat → Nat → Int32) (L0 : Nat → Nat → Int64) (hI : zI MT g0) (hJ : mJ g0) : Ex (fX12_pause fu p1 p2 g0 L0) (fun (r : Int32) (g1 : Nat → Nat → Int32) (L1 : Nat → Nat → Int64) => zI MT g1 ∧ mJ g1 ∧ g1 0 18 = g0 0 18 ∧ g1 0 2 = g0 0 2) := by
  have k0_0 : g0 0 18 = g0 0 18 := rfl
  have k0_1 : g0 0 2 = g0 0 2 := rfl
  unfold fX12_pause
  refine Ex.sti (hI.updN rfl) (fun g1 g1e hI => ?_)
  have k0_0 : g1 0 18 = g0 0 18 := by rw [g1e]; exact k0_0
  have k0_1 : g1 0 2 = g0 0 2 := by rw [g1e]; exact k0_1
  have hJ : mJ g1 := by rw [g1e]; exact mJ.upd hJ rfl
  refine Ex.cb (sX12_isWhat fu hfu p2 1 g1 L0 hI hJ) (fun x2 g3 L4 hq6 => ?_)
  obtain ⟨hI, hJ, kk0, kk1, rb_, ip0⟩ := hq6
  have b7 : 0 ≤ (Int32.toInt x2) ∧ (Int32.toInt x2) ≤ 1 := rb_
  have ip8 : (Int32.toInt x2) = 1 → 0 ≤ (Int32.toInt p2) ∧ (Int32.toInt p2) ≤ 1 := ip0
  have hI : zI MT g3 := hI
  have hJ : mJ g3 := hJ
  have k0_0 : g3 0 18 = g0 0 18 := kk0.trans k0_0
  have k0_1 : g3 0 2 = g0 0 2 := kk1.trans k0_1
  have J29 : ∀ (g : Nat → Nat → Int32) (L : Nat → Nat → Int64), zI MT g → mJ g → g 0 18 = g0 0 18 → g 0 2 = g0 0 2 → Ex (fX12_pause_p29 fu g L) (fun (r : Int32) (g1 : Nat → Nat → Int32) (L1 : Nat → Nat → Int64) => zI MT g1 ∧ mJ g1 ∧ g1 0 18 = g0 0 18 ∧ g1 0 2 = g0 0 2) := by
    intro g L hI hJ k0_0 k0_1
    unfold fX12_pause_p29
    exact Ex.ret ⟨hI, hJ, k0_0, k0_1⟩
  refine Ex.ite (fun c9 => ?_) (fun c9 => ?_)
  ·
    have c9 := icc_eq (m := (Int32.toInt x2)) (n := 0) rfl (by decide) c9
    exact J29 g3 L4 hI hJ k0_0 k0_1
  ·
    have c9 := icc_neq (m := (Int32.toInt x2)) (n := 0) rfl (by decide) c9
    refine Ex.cb (sX12_within fu hfu p1 1 30 g3 L4 hI hJ) (fun x10 g11 L12 hq14 => ?_)
    obtain ⟨hI, hJ, kk0, kk1, kk2, kk3, kk4, rb_, ip0⟩ := hq14
    have b15 : 0 ≤ (Int32.toInt x10) ∧ (Int32.toInt x10) ≤ 1 := rb_
    have ip16 : (Int32.toInt x10) = 1 → 1 ≤ (Int32.toInt p1) ∧ (Int32.toInt p1) ≤ 30 := ip0
    have hI : zI MT g11 := hI
    have hJ : mJ g11 := hJ
    have k0_0 : g11 0 18 = g0 0 18 := kk3.trans k0_0
    have k0_1 : g11 0 2 = g0 0 2 := kk4.trans k0_1
    refine Ex.cb (sX12_right fu hfu x10 2 g11 L12 hI hJ (by omega) (by decide)) (fun x17 g18 L19 hq21 => ?_)
    obtain ⟨hI, hJ, kk0, kk1, rb_, ip0⟩ := hq21
    have b22 : 0 ≤ (Int32.toInt x17) ∧ (Int32.toInt x17) ≤ 1 := rb_
    have ip23 : (Int32.toInt x17) = 1 → 1 ≤ (Int32.toInt x10) ∧ (Int32.toInt x10) ≤ 1 := ip0
    have hI : zI MT g18 := hI
    have hJ : mJ g18 := hJ
    have k0_0 : g18 0 18 = g0 0 18 := kk0.trans k0_0
    have k0_1 : g18 0 2 = g0 0 2 := kk1.trans k0_1
    refine Ex.ite (fun c24 => ?_) (fun c24 => ?_)
    ·
      have c24 := icc_eq (m := (Int32.toInt x17)) (n := 0) rfl (by decide) c24
      exact J29 g18 L19 hI hJ k0_0 k0_1
    ·
      have c24 := icc_neq (m := (Int32.toInt x17)) (n := 0) rfl (by decide) c24
      refine Ex.cb (sX12_copies_12_42 fu hfu g18 L19 hI hJ) (fun x25 g26 L27 hq29 => ?_)
      obtain ⟨hI, hJ, kk0, kk1⟩ := hq29
      have hI : zI MT g26 := hI
      have hJ : mJ g26 := hJ
      have k0_0 : g26 0 18 = g0 0 18 := kk0.trans k0_0
      have k0_1 : g26 0 2 = g0 0 2 := kk1.trans k0_1
      have lp51 : ∀ (v1 : Int32) (v2 : Int32) (v3 : Int32) (v4 : Int32) (v5 : Int32) (g : Nat → Nat → Int32) (L : Nat → Nat → Int64), (1 ≤ (Int32.toInt v1) ∧ (Int32.toInt v1) ≤ 30) → (0 ≤ (Int32.toInt v2) ∧ (Int32.toInt v2) ≤ 1) → (0 ≤ (Int32.toInt v5) ∧ (Int32.toInt v5) ≤ 12) → zI MT g → mJ g → g 0 18 = g0 0 18 → g 0 2 = g0 0 2 → Ex (fX12_pause_l51 fu v1 v2 v3 v4 v5 g L) (fun (r : Int32) (g1 : Nat → Nat → Int32) (L1 : Nat → Nat → Int64) => zI MT g1 ∧ mJ g1 ∧ g1 0 18 = g0 0 18 ∧ g1 0 2 = g0 0 2) := by
        intro v1 v2 v3 v4 v5 g L hb_v1 hb_v2 hb_v5 hI hJ k0_0 k0_1
        unfold fX12_pause_l51
        refine Ex.loop (fun v => ((1 ≤ (Int32.toInt v1) ∧ (Int32.toInt v1) ≤ 30)) ∧ ((0 ≤ (Int32.toInt v2) ∧ (Int32.toInt v2) ≤ 1)) ∧ ((0 ≤ (Int32.toInt (v.2.2.1)) ∧ (Int32.toInt (v.2.2.1)) ≤ 12)) ∧ (zI MT (v.2.2.2.1)) ∧ (mJ (v.2.2.2.1)) ∧ ((v.2.2.2.1) 0 18 = g0 0 18) ∧ ((v.2.2.2.1) 0 2 = g0 0 2)) (fun v => 13 - (Int32.toInt (v.2.2.1))) (by omega) (by show 13 - (Int32.toInt v5) < (fu : Int); omega) ⟨hb_v1, hb_v2, hb_v5, hI, hJ, k0_0, k0_1⟩ (fun k51 v hv ih51 => ?_)
        obtain ⟨v3, v4, v5, g, L⟩ := v
        obtain ⟨hb_v1, hb_v2, hb_v5, hI, hJ, k0_0, k0_1⟩ := hv
        have hb_v1 : (1 ≤ (Int32.toInt v1) ∧ (Int32.toInt v1) ≤ 30) := hb_v1
        have hb_v2 : (0 ≤ (Int32.toInt v2) ∧ (Int32.toInt v2) ≤ 1) := hb_v2
        have hb_v5 : (0 ≤ (Int32.toInt v5) ∧ (Int32.toInt v5) ≤ 12) := hb_v5
        have hI : zI MT g := hI
        have hJ : mJ g := hJ
        have k0_0 : g 0 18 = g0 0 18 := k0_0
        have k0_1 : g 0 2 = g0 0 2 := k0_1
        have ih51 : ∀ v' : Int32 × Int32 × Int32 × (Nat → Nat → Int32) × (Nat → Nat → Int64), (((1 ≤ (Int32.toInt v1) ∧ (Int32.toInt v1) ≤ 30)) ∧ ((0 ≤ (Int32.toInt v2) ∧ (Int32.toInt v2) ≤ 1)) ∧ ((0 ≤ (Int32.toInt (v'.2.2.1)) ∧ (Int32.toInt (v'.2.2.1)) ≤ 12)) ∧ (zI MT (v'.2.2.2.1)) ∧ (mJ (v'.2.2.2.1)) ∧ ((v'.2.2.2.1) 0 18 = g0 0 18) ∧ ((v'.2.2.2.1) 0 2 = g0 0 2)) → 13 - (Int32.toInt (v'.2.2.1)) < 13 - (Int32.toInt v5) → 0 < 13 - (Int32.toInt v5) → Ex (k51 v') (fun (r : Int32) (g1 : Nat → Nat → Int32) (L1 : Nat → Nat → Int64) => zI MT g1 ∧ mJ g1 ∧ g1 0 18 = g0 0 18 ∧ g1 0 2 = g0 0 2) := ih51
        show Ex (fX12_pause_s51 fu v1 v2 k51 v3 v4 v5 g L) (fun (r : Int32) (g1 : Nat → Nat → Int32) (L1 : Nat → Nat → Int64) => zI MT g1 ∧ mJ g1 ∧ g1 0 18 = g0 0 18 ∧ g1 0 2 = g0 0 2)
        unfold fX12_pause_s51
        have b30 : 0 ≤ (Int32.toInt (g 0 1)) ∧ (Int32.toInt (g 0 1)) ≤ 12 := hI 0 1 0 12 rfl
        refine Ex.ite (fun c31 => ?_) (fun c31 => ?_)
        ·
          have c31 := icc_le (m := (Int32.toInt (g 0 1))) (n := (Int32.toInt v5)) rfl rfl c31
          have J197 : ∀ (t0 : Int32) (g : Nat → Nat → Int32) (L : Nat → Nat → Int64), zI MT g → mJ g → g 0 18 = g0 0 18 → g 0 2 = g0 0 2 → Ex (fX12_pause_p197 fu t0 g L) (fun (r : Int32) (g1 : Nat → Nat → Int32) (L1 : Nat → Nat → Int64) => zI MT g1 ∧ mJ g1 ∧ g1 0 18 = g0 0 18 ∧ g1 0 2 = g0 0 2) := by
            intro t0 g L hI hJ k0_0 k0_1
            unfold fX12_pause_p197
            exact Ex.ret ⟨hI, hJ, k0_0, k0_1⟩
          have J191 : ∀ (v3 : Int32) (g : Nat → Nat → Int32) (L : Nat → Nat → Int64), zI MT g → mJ g → g 0 18 = g0 0 18 → g 0 2 = g0 0 2 → Ex (fX12_pause_p191 fu v3 g L) (fun (r : Int32) (g1 : Nat → Nat → Int32) (L1 : Nat → Nat → Int64) => zI MT g1 ∧ mJ g1 ∧ g1 0 18 = g0 0 18 ∧ g1 0 2 = g0 0 2) := by
            intro v3 g L hI hJ k0_0 k0_1
            unfold fX12_pause_p191
            exact J197 v3 g L hI hJ k0_0 k0_1
          refine Ex.ite (fun c32 => ?_) (fun c32 => ?_)
          ·
            have c32 := icc_eq (m := (Int32.toInt v3)) (n := (-1)) rfl (by decide) c32
            exact J191 v3 g L hI hJ k0_0 k0_1
          ·
            have c32 := icc_neq (m := (Int32.toInt v3)) (n := (-1)) rfl (by decide) c32
            refine Ex.ite (fun c33 => ?_) (fun c33 => ?_)
            ·
              have c33 := icc_eq (m := (Int32.toInt v2)) (n := 0) rfl (by decide) c33
              exact J191 v3 g L hI hJ k0_0 k0_1
            ·
              have c33 := icc_neq (m := (Int32.toInt v2)) (n := 0) rfl (by decide) c33
              exact J197 v4 g L hI hJ k0_0 k0_1
        ·
          have c31 := icc_nle (m := (Int32.toInt (g 0 1))) (n := (Int32.toInt v5)) rfl rfl c31
          have lp63 : ∀ (v6 : Int32) (g : Nat → Nat → Int32) (L : Nat → Nat → Int64), (1 ≤ (Int32.toInt v1) ∧ (Int32.toInt v1) ≤ 30) → (0 ≤ (Int32.toInt v2) ∧ (Int32.toInt v2) ≤ 1) → (0 ≤ (Int32.toInt v5) ∧ (Int32.toInt v5) ≤ 11) → (0 ≤ (Int32.toInt v6) ∧ (Int32.toInt v6) ≤ 12) → zI MT g → mJ g → g 0 18 = g0 0 18 → g 0 2 = g0 0 2 → Ex (fX12_pause_l63 fu k51 v1 v2 v3 v4 v5 v6 g L) (fun (r : Int32) (g1 : Nat → Nat → Int32) (L1 : Nat → Nat → Int64) => zI MT g1 ∧ mJ g1 ∧ g1 0 18 = g0 0 18 ∧ g1 0 2 = g0 0 2) := by
            intro v6 g L hb_v1 hb_v2 hb_v5 hb_v6 hI hJ k0_0 k0_1
            unfold fX12_pause_l63
            refine Ex.loop (fun v => ((1 ≤ (Int32.toInt v1) ∧ (Int32.toInt v1) ≤ 30)) ∧ ((0 ≤ (Int32.toInt v2) ∧ (Int32.toInt v2) ≤ 1)) ∧ ((0 ≤ (Int32.toInt v5) ∧ (Int32.toInt v5) ≤ 11)) ∧ ((0 ≤ (Int32.toInt (v.1)) ∧ (Int32.toInt (v.1)) ≤ 12)) ∧ (zI MT (v.2.1)) ∧ (mJ (v.2.1)) ∧ ((v.2.1) 0 18 = g0 0 18) ∧ ((v.2.1) 0 2 = g0 0 2)) (fun v => 13 - (Int32.toInt (v.1))) (by omega) (by show 13 - (Int32.toInt v6) < (fu : Int); omega) ⟨hb_v1, hb_v2, hb_v5, hb_v6, hI, hJ, k0_0, k0_1⟩ (fun k63 v hv ih63 => ?_)
            obtain ⟨v6, g, L⟩ := v
            obtain ⟨hb_v1, hb_v2, hb_v5, hb_v6, hI, hJ, k0_0, k0_1⟩ := hv
            have hb_v1 : (1 ≤ (Int32.toInt v1) ∧ (Int32.toInt v1) ≤ 30) := hb_v1
            have hb_v2 : (0 ≤ (Int32.toInt v2) ∧ (Int32.toInt v2) ≤ 1) := hb_v2
            have hb_v5 : (0 ≤ (Int32.toInt v5) ∧ (Int32.toInt v5) ≤ 11) := hb_v5
            have hb_v6 : (0 ≤ (Int32.toInt v6) ∧ (Int32.toInt v6) ≤ 12) := hb_v6
            have hI : zI MT g := hI
            have hJ : mJ g := hJ
            have k0_0 : g 0 18 = g0 0 18 := k0_0
            have k0_1 : g 0 2 = g0 0 2 := k0_1
            have ih63 : ∀ v' : Int32 × (Nat → Nat → Int32) × (Nat → Nat → Int64), (((1 ≤ (Int32.toInt v1) ∧ (Int32.toInt v1) ≤ 30)) ∧ ((0 ≤ (Int32.toInt v2) ∧ (Int32.toInt v2) ≤ 1)) ∧ ((0 ≤ (Int32.toInt v5) ∧ (Int32.toInt v5) ≤ 11)) ∧ ((0 ≤ (Int32.toInt (v'.1)) ∧ (Int32.toInt (v'.1)) ≤ 12)) ∧ (zI MT (v'.2.1)) ∧ (mJ (v'.2.1)) ∧ ((v'.2.1) 0 18 = g0 0 18) ∧ ((v'.2.1) 0 2 = g0 0 2)) → 13 - (Int32.toInt (v'.1)) < 13 - (Int32.toInt v6) → 0 < 13 - (Int32.toInt v6) → Ex (k63 v') (fun (r : Int32) (g1 : Nat → Nat → Int32) (L1 : Nat → Nat → Int64) => zI MT g1 ∧ mJ g1 ∧ g1 0 18 = g0 0 18 ∧ g1 0 2 = g0 0 2) := ih63
            show Ex (fX12_pause_s63 fu k51 v1 v2 v3 v4 v5 k63 v6 g L) (fun (r : Int32) (g1 : Nat → Nat → Int32) (L1 : Nat → Nat → Int64) => zI MT g1 ∧ mJ g1 ∧ g1 0 18 = g0 0 18 ∧ g1 0 2 = g0 0 2)
            unfold fX12_pause_s63
            have b34 : 0 ≤ (Int32.toInt (g 0 1)) ∧ (Int32.toInt (g 0 1)) ≤ 12 := hI 0 1 0 12 rfl
            refine Ex.ite (fun c35 => ?_) (fun c35 => ?_)
            ·
              have c35 := icc_le (m := (Int32.toInt (g 0 1))) (n := (Int32.toInt v6)) rfl rfl c35
              refine Ex.cb (sX12_lost fu hfu g L hI hJ) (fun x36 g37 L38 hq40 => ?_)
              obtain ⟨hI, hJ, kk0, kk1⟩ := hq40
              have hI : zI MT g37 := hI
              have hJ : mJ g37 := hJ
              have k0_0 : g37 0 18 = g0 0 18 := kk0.trans k0_0
              have k0_1 : g37 0 2 = g0 0 2 := kk1.trans k0_1
              refine Ex.cb (sX12_copies_42_12 fu hfu g37 L38 hI hJ) (fun x41 g42 L43 hq45 => ?_)
              obtain ⟨hI, hJ, kk0, kk1⟩ := hq45
              have hI : zI MT g42 := hI
              have hJ : mJ g42 := hJ
              have k0_0 : g42 0 18 = g0 0 18 := kk0.trans k0_0
              have k0_1 : g42 0 2 = g0 0 2 := kk1.trans k0_1
              have J176 : ∀ (v3 : Int32) (v4 : Int32) (g : Nat → Nat → Int32) (L : Nat → Nat → Int64), (1 ≤ (Int32.toInt v1) ∧ (Int32.toInt v1) ≤ 30) → (0 ≤ (Int32.toInt v2) ∧ (Int32.toInt v2) ≤ 1) → (0 ≤ (Int32.toInt v5) ∧ (Int32.toInt v5) ≤ 11) → zI MT g → mJ g → g 0 18 = g0 0 18 → g 0 2 = g0 0 2 → Ex (fX12_pause_p176 fu k51 v1 v2 v3 v4 v5 g L) (fun (r : Int32) (g1 : Nat → Nat → Int32) (L1 : Nat → Nat → Int64) => zI MT g1 ∧ mJ g1 ∧ g1 0 18 = g0 0 18 ∧ g1 0 2 = g0 0 2) := by
                intro v3 v4 g L hb_v1 hb_v2 hb_v5 hI hJ k0_0 k0_1
                unfold fX12_pause_p176
                generalize z46q : (v5 + 1) = z46
                have e47 : (Int32.toInt z46) = (Int32.toInt v5) + 1 := by rw [← z46q]; exact ic_addc rfl (by decide) (by omega) (by omega)
                exact ih51 (v3, v4, z46, g, L) ⟨(show (1 ≤ (Int32.toInt v1) ∧ (Int32.toInt v1) ≤ 30) from by omega), (show (0 ≤ (Int32.toInt v2) ∧ (Int32.toInt v2) ≤ 1) from by omega), (show (0 ≤ (Int32.toInt z46) ∧ (Int32.toInt z46) ≤ 12) from by omega), hI, hJ, k0_0, k0_1⟩ (by show 13 - (Int32.toInt z46) < _; omega) (by omega)
              have J164 : ∀ (v6 : Int32) (g : Nat → Nat → Int32) (L : Nat → Nat → Int64), (1 ≤ (Int32.toInt v1) ∧ (Int32.toInt v1) ≤ 30) → (0 ≤ (Int32.toInt v2) ∧ (Int32.toInt v2) ≤ 1) → (0 ≤ (Int32.toInt v5) ∧ (Int32.toInt v5) ≤ 11) → zI MT g → mJ g → g 0 18 = g0 0 18 → g 0 2 = g0 0 2 → Ex (fX12_pause_p164 fu k51 v1 v2 v5 v6 g L) (fun (r : Int32) (g1 : Nat → Nat → Int32) (L1 : Nat → Nat → Int64) => zI MT g1 ∧ mJ g1 ∧ g1 0 18 = g0 0 18 ∧ g1 0 2 = g0 0 2) := by
                intro v6 g L hb_v1 hb_v2 hb_v5 hI hJ k0_0 k0_1
                unfold fX12_pause_p164
                refine Ex.ck (by omega) (by omega) ?_
                refine Ex.lti (fun x48 x48e x48i => ?_)
                exact J176 x48 v6 g L (by omega) (by omega) (by omega) hI hJ k0_0 k0_1
              refine Ex.ite (fun c49 => ?_) (fun c49 => ?_)
              ·
                have c49 := icc_eq (m := (Int32.toInt v3)) (n := (-1)) rfl (by decide) c49
                exact J164 x36 g42 L43 (by omega) (by omega) (by omega) hI hJ k0_0 k0_1
              ·
                have c49 := icc_neq (m := (Int32.toInt v3)) (n := (-1)) rfl (by decide) c49
                refine Ex.ite (fun c50 => ?_) (fun c50 => ?_)
                ·
                  have c50 := icc_lt (m := (Int32.toInt v4)) (n := (Int32.toInt x36)) rfl rfl c50
                  exact J176 v3 v4 g42 L43 (by omega) (by omega) (by omega) hI hJ k0_0 k0_1
                ·
                  have c50 := icc_nlt (m := (Int32.toInt v4)) (n := (Int32.toInt x36)) rfl rfl c50
                  refine Ex.ite (fun c51 => ?_) (fun c51 => ?_)
                  ·
                    have c51 := icc_eq (m := (Int32.toInt x36)) (n := (Int32.toInt v4)) rfl rfl c51
                    refine Ex.ck (by omega) (by omega) ?_
                    refine Ex.ite (fun c52 => ?_) (fun c52 => ?_)
                    ·
                      have c52 := icc_lt (m := (Int32.toInt (g42 1 (Int32.toNatClampNeg v5)))) (n := (Int32.toInt v3)) rfl rfl c52
                      exact J164 x36 g42 L43 (by omega) (by omega) (by omega) hI hJ k0_0 k0_1
                    ·
                      have c52 := icc_nlt (m := (Int32.toInt (g42 1 (Int32.toNatClampNeg v5)))) (n := (Int32.toInt v3)) rfl rfl c52
                      exact J176 v3 v4 g42 L43 (by omega) (by omega) (by omega) hI hJ k0_0 k0_1
                  ·
                    have c51 := icc_neq (m := (Int32.toInt x36)) (n := (Int32.toInt v4)) rfl rfl c51
                    exact J164 x36 g42 L43 (by omega) (by omega) (by omega) hI hJ k0_0 k0_1
            ·
              have c35 := icc_nle (m := (Int32.toInt (g 0 1))) (n := (Int32.toInt v6)) rfl rfl c35
              generalize z53q : (12 + v6) = z53
              have e54 : (Int32.toInt z53) = 12 + (Int32.toInt v6) := by rw [← z53q]; exact ic_addc (by decide) rfl (by omega) (by omega)
              refine Ex.ck (by omega) (by omega) ?_
              refine Ex.ck (by omega) (by omega) ?_
              refine Ex.ck (by omega) (by omega) ?_
              have J105 : ∀ (t0 : Int32) (t1 : Int32) (t2 : Int32) (g : Nat → Nat → Int32) (L : Nat → Nat → Int64), (1 ≤ (Int32.toInt v1) ∧ (Int32.toInt v1) ≤ 30) → (0 ≤ (Int32.toInt v2) ∧ (Int32.toInt v2) ≤ 1) → (0 ≤ (Int32.toInt v5) ∧ (Int32.toInt v5) ≤ 11) → (0 ≤ (Int32.toInt v6) ∧ (Int32.toInt v6) ≤ 11) → (0 ≤ (Int32.toInt t0) ∧ (Int32.toInt t0) ≤ 30) → (12 ≤ (Int32.toInt t2) ∧ (Int32.toInt t2) ≤ 23) → zI MT g → mJ g → g 0 18 = g0 0 18 → g 0 2 = g0 0 2 → Ex (fX12_pause_p105 fu k51 k63 v1 v2 v3 v4 v5 v6 t0 t1 t2 g L) (fun (r : Int32) (g1 : Nat → Nat → Int32) (L1 : Nat → Nat → Int64) => zI MT g1 ∧ mJ g1 ∧ g1 0 18 = g0 0 18 ∧ g1 0 2 = g0 0 2) := by
                intro t0 t1 t2 g L hb_v1 hb_v2 hb_v5 hb_v6 hb_t0 hb_t2 hI hJ k0_0 k0_1
                unfold fX12_pause_p105
                generalize z55q : (t1 + t0) = z55
                refine Ex.ck (by omega) (by omega) ?_
                refine Ex.sti (hI.updN rfl) (fun g56 g56e hI => ?_)
                have k0_0 : g56 0 18 = g0 0 18 := by rw [g56e]; exact k0_0
                have k0_1 : g56 0 2 = g0 0 2 := by rw [g56e]; exact k0_1
                have hJ : mJ g56 := by rw [g56e]; exact mJ.upd hJ rfl
                generalize z57q : (v6 + 1) = z57
                have e58 : (Int32.toInt z57) = (Int32.toInt v6) + 1 := by rw [← z57q]; exact ic_addc rfl (by decide) (by omega) (by omega)
                exact ih63 (z57, g56, L) ⟨(show (1 ≤ (Int32.toInt v1) ∧ (Int32.toInt v1) ≤ 30) from by omega), (show (0 ≤ (Int32.toInt v2) ∧ (Int32.toInt v2) ≤ 1) from by omega), (show (0 ≤ (Int32.toInt v5) ∧ (Int32.toInt v5) ≤ 11) from by omega), (show (0 ≤ (Int32.toInt z57) ∧ (Int32.toInt z57) ≤ 12) from by omega), hI, hJ, k0_0, k0_1⟩ (by show 13 - (Int32.toInt z57) < _; omega) (by omega)
              refine Ex.ite (fun c59 => ?_) (fun c59 => ?_)
              ·
                have c59 := icc_lt (m := (Int32.toInt (g 1 (Int32.toNatClampNeg v6)))) (n := (Int32.toInt (g 1 (Int32.toNatClampNeg v5)))) rfl rfl c59
                exact J105 0 (g 12 (Int32.toNatClampNeg z53)) z53 g L (by omega) (by omega) (by omega) (by omega) (by decide) (by omega) hI hJ k0_0 k0_1
              ·
                have c59 := icc_nlt (m := (Int32.toInt (g 1 (Int32.toNatClampNeg v6)))) (n := (Int32.toInt (g 1 (Int32.toNatClampNeg v5)))) rfl rfl c59
                exact J105 v1 (g 12 (Int32.toNatClampNeg z53)) z53 g L (by omega) (by omega) (by omega) (by omega) (by omega) (by omega) hI hJ k0_0 k0_1
          exact lp63 0 g L (by omega) (by omega) (by omega) (by decide) hI hJ k0_0 k0_1
      exact lp51 p1 p2 (-1) 0 0 g26 L27 (by omega) (by omega) (by decide) hI hJ k0_0 k0_1
set_option maxHeartbeats 4000000 in
set_option maxRecDepth 100000 in
theorem sX12_shift (fu : Nat) (hfu : 1180591620717411303424 ≤ fu) (p1 : Int32) (p2 : Int32) (g0 : Nat → Nat → Int32) (L0 : Nat → Nat → Int64) (hI : zI MT g0) (hJ : mJ g0) : Ex (fX12_shift fu p1 p2 g0 L0) (fun (r : Int32) (g1 : Nat → Nat → Int32) (L1 : Nat → Nat → Int64) => zI MT g1 ∧ mJ g1 ∧ g1 0 18 = g0 0 18 ∧ g1 0 2 = g0 0 2) := by
  have k0_0 : g0 0 18 = g0 0 18 := rfl
  have k0_1 : g0 0 2 = g0 0 2 := rfl
  unfold fX12_shift
  refine Ex.sti (hI.updN rfl) (fun g1 g1e hI => ?_)
  have k0_0 : g1 0 18 = g0 0 18 := by rw [g1e]; exact k0_0
  have k0_1 : g1 0 2 = g0 0 2 := by rw [g1e]; exact k0_1
  have hJ : mJ g1 := by rw [g1e]; exact mJ.upd hJ rfl
  refine Ex.cb (sX12_isLesson fu hfu p1 g1 L0 hI hJ) (fun x2 g3 L4 hq6 => ?_)
  obtain ⟨hI, hJ, kk0, kk1, rb_, ip0⟩ := hq6
  have b7 : 0 ≤ (Int32.toInt x2) ∧ (Int32.toInt x2) ≤ 1 := rb_
  have ip8 : (Int32.toInt x2) = 1 → 0 ≤ (Int32.toInt p1) ∧ (Int32.toInt p1) ≤ 11 := ip0
  have hI : zI MT g3 := hI
  have hJ : mJ g3 := hJ
  have k0_0 : g3 0 18 = g0 0 18 := kk0.trans k0_0
  have k0_1 : g3 0 2 = g0 0 2 := kk1.trans k0_1
  have J22 : ∀ (g : Nat → Nat → Int32) (L : Nat → Nat → Int64), zI MT g → mJ g → g 0 18 = g0 0 18 → g 0 2 = g0 0 2 → Ex (fX12_shift_p22 fu g L) (fun (r : Int32) (g1 : Nat → Nat → Int32) (L1 : Nat → Nat → Int64) => zI MT g1 ∧ mJ g1 ∧ g1 0 18 = g0 0 18 ∧ g1 0 2 = g0 0 2) := by
    intro g L hI hJ k0_0 k0_1
    unfold fX12_shift_p22
    exact Ex.ret ⟨hI, hJ, k0_0, k0_1⟩
  refine Ex.ite (fun c9 => ?_) (fun c9 => ?_)
  ·
    have c9 := icc_eq (m := (Int32.toInt x2)) (n := 0) rfl (by decide) c9
    exact J22 g3 L4 hI hJ k0_0 k0_1
  ·
    have c9 := icc_neq (m := (Int32.toInt x2)) (n := 0) rfl (by decide) c9
    refine Ex.cb (sX12_isWhat fu hfu p2 1 g3 L4 hI hJ) (fun x10 g11 L12 hq14 => ?_)
    obtain ⟨hI, hJ, kk0, kk1, rb_, ip0⟩ := hq14
    have b15 : 0 ≤ (Int32.toInt x10) ∧ (Int32.toInt x10) ≤ 1 := rb_
    have ip16 : (Int32.toInt x10) = 1 → 0 ≤ (Int32.toInt p2) ∧ (Int32.toInt p2) ≤ 1 := ip0
    have hI : zI MT g11 := hI
    have hJ : mJ g11 := hJ
    have k0_0 : g11 0 18 = g0 0 18 := kk0.trans k0_0
    have k0_1 : g11 0 2 = g0 0 2 := kk1.trans k0_1
    refine Ex.ite (fun c17 => ?_) (fun c17 => ?_)
    ·
      have c17 := icc_eq (m := (Int32.toInt x10)) (n := 0) rfl (by decide) c17
      exact J22 g11 L12 hI hJ k0_0 k0_1
    ·
      have c17 := icc_neq (m := (Int32.toInt x10)) (n := 0) rfl (by decide) c17
      refine Ex.ck (by omega) (by omega) ?_
      refine Ex.lti (fun x18 x18e x18i => ?_)
      refine Ex.ck (by omega) (by omega) ?_
      refine Ex.lti (fun x19 x19e x19i => ?_)
      have lp52 : ∀ (v1 : Int32) (v2 : Int32) (v3 : Int32) (v4 : Int32) (v5 : Int32) (v6 : Int32) (v7 : Int32) (v8 : Int32) (g : Nat → Nat → Int32) (L : Nat → Nat → Int64), (0 ≤ (Int32.toInt v1) ∧ (Int32.toInt v1) ≤ 11) → (0 ≤ (Int32.toInt v2) ∧ (Int32.toInt v2) ≤ 1) → (0 ≤ (Int32.toInt v5) ∧ (Int32.toInt v5) ≤ 1) → ((-20) ≤ (Int32.toInt v6) ∧ (Int32.toInt v6) ≤ 20) → ((-20) ≤ (Int32.toInt v8) ∧ (Int32.toInt v8) ≤ 21) → zI MT g → mJ g → g 0 18 = g0 0 18 → g 0 2 = g0 0 2 → Ex (fX12_shift_l52 fu v1 v2 v3 v4 v5 v6 v7 v8 g L) (fun (r : Int32) (g1 : Nat → Nat → Int32) (L1 : Nat → Nat → Int64) => zI MT g1 ∧ mJ g1 ∧ g1 0 18 = g0 0 18 ∧ g1 0 2 = g0 0 2) := by
        intro v1 v2 v3 v4 v5 v6 v7 v8 g L hb_v1 hb_v2 hb_v5 hb_v6 hb_v8 hI hJ k0_0 k0_1
        unfold fX12_shift_l52
        refine Ex.loop (fun v => ((0 ≤ (Int32.toInt v1) ∧ (Int32.toInt v1) ≤ 11)) ∧ ((0 ≤ (Int32.toInt v2) ∧ (Int32.toInt v2) ≤ 1)) ∧ ((0 ≤ (Int32.toInt (v.1)) ∧ (Int32.toInt (v.1)) ≤ 1)) ∧ (((-20) ≤ (Int32.toInt (v.2.1)) ∧ (Int32.toInt (v.2.1)) ≤ 20)) ∧ (((-20) ≤ (Int32.toInt (v.2.2.2.1)) ∧ (Int32.toInt (v.2.2.2.1)) ≤ 21)) ∧ (zI MT (v.2.2.2.2.1)) ∧ (mJ (v.2.2.2.2.1)) ∧ ((v.2.2.2.2.1) 0 18 = g0 0 18) ∧ ((v.2.2.2.2.1) 0 2 = g0 0 2)) (fun v => 22 - (Int32.toInt (v.2.2.2.1))) (by omega) (by show 22 - (Int32.toInt v8) < (fu : Int); omega) ⟨hb_v1, hb_v2, hb_v5, hb_v6, hb_v8, hI, hJ, k0_0, k0_1⟩ (fun k52 v hv ih52 => ?_)
        obtain ⟨v5, v6, v7, v8, g, L⟩ := v
        obtain ⟨hb_v1, hb_v2, hb_v5, hb_v6, hb_v8, hI, hJ, k0_0, k0_1⟩ := hv
        have hb_v1 : (0 ≤ (Int32.toInt v1) ∧ (Int32.toInt v1) ≤ 11) := hb_v1
        have hb_v2 : (0 ≤ (Int32.toInt v2) ∧ (Int32.toInt v2) ≤ 1) := hb_v2
        have hb_v5 : (0 ≤ (Int32.toInt v5) ∧ (Int32.toInt v5) ≤ 1) := hb_v5
        have hb_v6 : ((-20) ≤ (Int32.toInt v6) ∧ (Int32.toInt v6) ≤ 20) := hb_v6
        have hb_v8 : ((-20) ≤ (Int32.toInt v8) ∧ (Int32.toInt v8) ≤ 21) := hb_v8
        have hI : zI MT g := hI
        have hJ : mJ g := hJ
        have k0_0 : g 0 18 = g0 0 18 := k0_0
        have k0_1 : g 0 2 = g0 0 2 := k0_1
        have ih52 : ∀ v' : Int32 × Int32 × Int32 × Int32 × (Nat → Nat → Int32) × (Nat → Nat → Int64), (((0 ≤ (Int32.toInt v1) ∧ (Int32.toInt v1) ≤ 11)) ∧ ((0 ≤ (Int32.toInt v2) ∧ (Int32.toInt v2) ≤ 1)) ∧ ((0 ≤ (Int32.toInt (v'.1)) ∧ (Int32.toInt (v'.1)) ≤ 1)) ∧ (((-20) ≤ (Int32.toInt (v'.2.1)) ∧ (Int32.toInt (v'.2.1)) ≤ 20)) ∧ (((-20) ≤ (Int32.toInt (v'.2.2.2.1)) ∧ (Int32.toInt (v'.2.2.2.1)) ≤ 21)) ∧ (zI MT (v'.2.2.2.2.1)) ∧ (mJ (v'.2.2.2.2.1)) ∧ ((v'.2.2.2.2.1) 0 18 = g0 0 18) ∧ ((v'.2.2.2.2.1) 0 2 = g0 0 2)) → 22 - (Int32.toInt (v'.2.2.2.1)) < 22 - (Int32.toInt v8) → 0 < 22 - (Int32.toInt v8) → Ex (k52 v') (fun (r : Int32) (g1 : Nat → Nat → Int32) (L1 : Nat → Nat → Int64) => zI MT g1 ∧ mJ g1 ∧ g1 0 18 = g0 0 18 ∧ g1 0 2 = g0 0 2) := ih52
        show Ex (fX12_shift_s52 fu v1 v2 v3 v4 k52 v5 v6 v7 v8 g L) (fun (r : Int32) (g1 : Nat → Nat → Int32) (L1 : Nat → Nat → Int64) => zI MT g1 ∧ mJ g1 ∧ g1 0 18 = g0 0 18 ∧ g1 0 2 = g0 0 2)
        unfold fX12_shift_s52
        refine Ex.ite (fun c20 => ?_) (fun c20 => ?_)
        ·
          have c20 := icc_lt (m := 20) (n := (Int32.toInt v8)) (by decide) rfl c20
          refine Ex.ck (by omega) (by omega) ?_
          refine Ex.sti (hI.updN rfl) (fun g21 g21e hI => ?_)
          have k0_0 : g21 0 18 = g0 0 18 := by rw [g21e]; exact k0_0
          have k0_1 : g21 0 2 = g0 0 2 := by rw [g21e]; exact k0_1
          have hJ : mJ g21 := by rw [g21e]; exact mJ.upd hJ rfl
          refine Ex.ck (by omega) (by omega) ?_
          refine Ex.sti (hI.updN rfl) (fun g22 g22e hI => ?_)
          have k0_0 : g22 0 18 = g0 0 18 := by rw [g22e]; exact k0_0
          have k0_1 : g22 0 2 = g0 0 2 := by rw [g22e]; exact k0_1
          have hJ : mJ g22 := by rw [g22e]; exact mJ.upd hJ rfl
          have J165 : ∀ (t0 : Int32) (g : Nat → Nat → Int32) (L : Nat → Nat → Int64), zI MT g → mJ g → g 0 18 = g0 0 18 → g 0 2 = g0 0 2 → Ex (fX12_shift_p165 fu t0 g L) (fun (r : Int32) (g1 : Nat → Nat → Int32) (L1 : Nat → Nat → Int64) => zI MT g1 ∧ mJ g1 ∧ g1 0 18 = g0 0 18 ∧ g1 0 2 = g0 0 2) := by
            intro t0 g L hI hJ k0_0 k0_1
            unfold fX12_shift_p165
            exact Ex.ret ⟨hI, hJ, k0_0, k0_1⟩
          refine Ex.ite (fun c23 => ?_) (fun c23 => ?_)
          ·
            have c23 := icc_eq (m := (Int32.toInt v2)) (n := 0) rfl (by decide) c23
            exact J165 v6 g22 L hI hJ k0_0 k0_1
          ·
            have c23 := icc_neq (m := (Int32.toInt v2)) (n := 0) rfl (by decide) c23
            exact J165 v7 g22 L hI hJ k0_0 k0_1
        ·
          have c20 := icc_nlt (m := 20) (n := (Int32.toInt v8)) (by decide) rfl c20
          generalize z24q : (v3 + v8) = z24
          have J133 : ∀ (v5 : Int32) (v6 : Int32) (v7 : Int32) (g : Nat → Nat → Int32) (L : Nat → Nat → Int64), (0 ≤ (Int32.toInt v1) ∧ (Int32.toInt v1) ≤ 11) → (0 ≤ (Int32.toInt v2) ∧ (Int32.toInt v2) ≤ 1) → (0 ≤ (Int32.toInt v5) ∧ (Int32.toInt v5) ≤ 1) → ((-20) ≤ (Int32.toInt v6) ∧ (Int32.toInt v6) ≤ 20) → ((-20) ≤ (Int32.toInt v8) ∧ (Int32.toInt v8) ≤ 20) → zI MT g → mJ g → g 0 18 = g0 0 18 → g 0 2 = g0 0 2 → Ex (fX12_shift_p133 fu k52 v1 v2 v3 v4 v5 v6 v7 v8 g L) (fun (r : Int32) (g1 : Nat → Nat → Int32) (L1 : Nat → Nat → Int64) => zI MT g1 ∧ mJ g1 ∧ g1 0 18 = g0 0 18 ∧ g1 0 2 = g0 0 2) := by
            intro v5 v6 v7 g L hb_v1 hb_v2 hb_v5 hb_v6 hb_v8 hI hJ k0_0 k0_1
            unfold fX12_shift_p133
            generalize z25q : (v8 + 1) = z25
            have e26 : (Int32.toInt z25) = (Int32.toInt v8) + 1 := by rw [← z25q]; exact ic_addc rfl (by decide) (by omega) (by omega)
            exact ih52 (v5, v6, v7, z25, g, L) ⟨(show (0 ≤ (Int32.toInt v1) ∧ (Int32.toInt v1) ≤ 11) from by omega), (show (0 ≤ (Int32.toInt v2) ∧ (Int32.toInt v2) ≤ 1) from by omega), (show (0 ≤ (Int32.toInt v5) ∧ (Int32.toInt v5) ≤ 1) from by omega), (show ((-20) ≤ (Int32.toInt v6) ∧ (Int32.toInt v6) ≤ 20) from by omega), (show ((-20) ≤ (Int32.toInt z25) ∧ (Int32.toInt z25) ≤ 21) from by omega), hI, hJ, k0_0, k0_1⟩ (by show 22 - (Int32.toInt z25) < _; omega) (by omega)
          refine Ex.ite (fun c27 => ?_) (fun c27 => ?_)
          ·
            have c27 := icc_lt (m := (Int32.toInt z24)) (n := 0) rfl (by decide) c27
            exact J133 v5 v6 v7 g L (by omega) (by omega) (by omega) (by omega) (by omega) hI hJ k0_0 k0_1
          ·
            have c27 := icc_nlt (m := (Int32.toInt z24)) (n := 0) rfl (by decide) c27
            generalize z28q : (v4 + v8) = z28
            refine Ex.ite (fun c29 => ?_) (fun c29 => ?_)
            ·
              have c29 := icc_le (m := (Int32.toInt z28)) (n := 999) rfl (by decide) c29
              refine Ex.ck (by omega) (by omega) ?_
              refine Ex.sti (hI.updN rfl) (fun g30 g30e hI => ?_)
              have k0_0 : g30 0 18 = g0 0 18 := by rw [g30e]; exact k0_0
              have k0_1 : g30 0 2 = g0 0 2 := by rw [g30e]; exact k0_1
              have hJ : mJ g30 := by rw [g30e]; exact mJ.upd hJ rfl
              refine Ex.ck (by omega) (by omega) ?_
              refine Ex.sti (hI.updN rfl) (fun g31 g31e hI => ?_)
              have k0_0 : g31 0 18 = g0 0 18 := by rw [g31e]; exact k0_0
              have k0_1 : g31 0 2 = g0 0 2 := by rw [g31e]; exact k0_1
              have hJ : mJ g31 := by rw [g31e]; exact mJ.upd hJ rfl
              refine Ex.cb (sX12_lost fu hfu g31 L hI hJ) (fun x32 g33 L34 hq36 => ?_)
              obtain ⟨hI, hJ, kk0, kk1⟩ := hq36
              have hI : zI MT g33 := hI
              have hJ : mJ g33 := hJ
              have k0_0 : g33 0 18 = g0 0 18 := kk0.trans k0_0
              have k0_1 : g33 0 2 = g0 0 2 := kk1.trans k0_1
              have J122 : ∀ (v9 : Int32) (g : Nat → Nat → Int32) (L : Nat → Nat → Int64), (0 ≤ (Int32.toInt v1) ∧ (Int32.toInt v1) ≤ 11) → (0 ≤ (Int32.toInt v2) ∧ (Int32.toInt v2) ≤ 1) → ((-20) ≤ (Int32.toInt v8) ∧ (Int32.toInt v8) ≤ 20) → zI MT g → mJ g → g 0 18 = g0 0 18 → g 0 2 = g0 0 2 → Ex (fX12_shift_p122 fu k52 v1 v2 v3 v4 v8 v9 g L) (fun (r : Int32) (g1 : Nat → Nat → Int32) (L1 : Nat → Nat → Int64) => zI MT g1 ∧ mJ g1 ∧ g1 0 18 = g0 0 18 ∧ g1 0 2 = g0 0 2) := by
                intro v9 g L hb_v1 hb_v2 hb_v8 hI hJ k0_0 k0_1
                unfold fX12_shift_p122
                exact J133 1 v8 v9 g L (by omega) (by omega) (by decide) (by omega) (by omega) hI hJ k0_0 k0_1
              refine Ex.ite (fun c37 => ?_) (fun c37 => ?_)
              ·
                have c37 := icc_eq (m := (Int32.toInt v5)) (n := 0) rfl (by decide) c37
                exact J122 x32 g33 L34 (by omega) (by omega) (by omega) hI hJ k0_0 k0_1
              ·
                have c37 := icc_neq (m := (Int32.toInt v5)) (n := 0) rfl (by decide) c37
                refine Ex.ite (fun c38 => ?_) (fun c38 => ?_)
                ·
                  have c38 := icc_lt (m := (Int32.toInt x32)) (n := (Int32.toInt v7)) rfl rfl c38
                  exact J122 x32 g33 L34 (by omega) (by omega) (by omega) hI hJ k0_0 k0_1
                ·
                  have c38 := icc_nlt (m := (Int32.toInt x32)) (n := (Int32.toInt v7)) rfl rfl c38
                  exact J133 v5 v6 v7 g33 L34 (by omega) (by omega) (by omega) (by omega) (by omega) hI hJ k0_0 k0_1
            ·
              have c29 := icc_nle (m := (Int32.toInt z28)) (n := 999) rfl (by decide) c29
              exact J133 v5 v6 v7 g L (by omega) (by omega) (by omega) (by omega) (by omega) hI hJ k0_0 k0_1
      exact lp52 p1 p2 x18 x19 0 0 0 (-20) g11 L12 (by omega) (by omega) (by decide) (by decide) (by decide) hI hJ k0_0 k0_1
set_option maxHeartbeats 4000000 in
set_option maxRecDepth 100000 in
theorem sX12_isSeen (fu : Nat) (hfu : 1180591620717411303424 ≤ fu) (g0 : Nat → Nat → Int32) (L0 : Nat → Nat → Int64) (hI : zI MT g0) (hJ : mJ g0) : Ex (fX12_isSeen fu g0 L0) (fun (r : Int32) (g1 : Nat → Nat → Int32) (L1 : Nat → Nat → Int64) => zI MT g1 ∧ mJ g1 ∧ g1 0 18 = g0 0 18 ∧ g1 0 2 = g0 0 2 ∧ (0 ≤ (Int32.toInt r) ∧ (Int32.toInt r) ≤ 1)) := by
  have k0_0 : g0 0 18 = g0 0 18 := rfl
  have k0_1 : g0 0 2 = g0 0 2 := rfl
  unfold fX12_isSeen
  refine Ex.cb (sX12_works0 fu hfu g0 L0 hI hJ) (fun x1 g2 L3 hq5 => ?_)
  obtain ⟨hI, hJ, kk0, kk1⟩ := hq5
  have hI : zI MT g2 := hI
  have hJ : mJ g2 := hJ
  have k0_0 : g2 0 18 = g0 0 18 := kk0.trans k0_0
  have k0_1 : g2 0 2 = g0 0 2 := kk1.trans k0_1
  have lp6 : ∀ (v1 : Int32) (g : Nat → Nat → Int32) (L : Nat → Nat → Int64), (0 ≤ (Int32.toInt v1) ∧ (Int32.toInt v1) ≤ 8) → zI MT g → mJ g → g 0 18 = g0 0 18 → g 0 2 = g0 0 2 → Ex (fX12_isSeen_l6 fu v1 g L) (fun (r : Int32) (g1 : Nat → Nat → Int32) (L1 : Nat → Nat → Int64) => zI MT g1 ∧ mJ g1 ∧ g1 0 18 = g0 0 18 ∧ g1 0 2 = g0 0 2 ∧ (0 ≤ (Int32.toInt r) ∧ (Int32.toInt r) ≤ 1)) := by
    intro v1 g L hb_v1 hI hJ k0_0 k0_1
    unfold fX12_isSeen_l6
    refine Ex.loop (fun v => ((0 ≤ (Int32.toInt (v.1)) ∧ (Int32.toInt (v.1)) ≤ 8)) ∧ (zI MT (v.2.1)) ∧ (mJ (v.2.1)) ∧ ((v.2.1) 0 18 = g0 0 18) ∧ ((v.2.1) 0 2 = g0 0 2)) (fun v => 9 - (Int32.toInt (v.1))) (by omega) (by show 9 - (Int32.toInt v1) < (fu : Int); omega) ⟨hb_v1, hI, hJ, k0_0, k0_1⟩ (fun k6 v hv ih6 => ?_)
    obtain ⟨v1, g, L⟩ := v
    obtain ⟨hb_v1, hI, hJ, k0_0, k0_1⟩ := hv
    have hb_v1 : (0 ≤ (Int32.toInt v1) ∧ (Int32.toInt v1) ≤ 8) := hb_v1
    have hI : zI MT g := hI
    have hJ : mJ g := hJ
    have k0_0 : g 0 18 = g0 0 18 := k0_0
    have k0_1 : g 0 2 = g0 0 2 := k0_1
    have ih6 : ∀ v' : Int32 × (Nat → Nat → Int32) × (Nat → Nat → Int64), (((0 ≤ (Int32.toInt (v'.1)) ∧ (Int32.toInt (v'.1)) ≤ 8)) ∧ (zI MT (v'.2.1)) ∧ (mJ (v'.2.1)) ∧ ((v'.2.1) 0 18 = g0 0 18) ∧ ((v'.2.1) 0 2 = g0 0 2)) → 9 - (Int32.toInt (v'.1)) < 9 - (Int32.toInt v1) → 0 < 9 - (Int32.toInt v1) → Ex (k6 v') (fun (r : Int32) (g1 : Nat → Nat → Int32) (L1 : Nat → Nat → Int64) => zI MT g1 ∧ mJ g1 ∧ g1 0 18 = g0 0 18 ∧ g1 0 2 = g0 0 2 ∧ (0 ≤ (Int32.toInt r) ∧ (Int32.toInt r) ≤ 1)) := ih6
    show Ex (fX12_isSeen_s6 fu k6 v1 g L) (fun (r : Int32) (g1 : Nat → Nat → Int32) (L1 : Nat → Nat → Int64) => zI MT g1 ∧ mJ g1 ∧ g1 0 18 = g0 0 18 ∧ g1 0 2 = g0 0 2 ∧ (0 ≤ (Int32.toInt r) ∧ (Int32.toInt r) ≤ 1))
    unfold fX12_isSeen_s6
    have b6 : 0 ≤ (Int32.toInt (g 0 73)) ∧ (Int32.toInt (g 0 73)) ≤ 8 := hI 0 73 0 8 rfl
    refine Ex.ite (fun c7 => ?_) (fun c7 => ?_)
    ·
      have c7 := icc_le (m := (Int32.toInt (g 0 73))) (n := (Int32.toInt v1)) rfl rfl c7
      refine Ex.ckb rfl ?_
      exact Ex.ret ⟨hI, hJ, k0_0, k0_1, (by decide)⟩
    ·
      have c7 := icc_nle (m := (Int32.toInt (g 0 73))) (n := (Int32.toInt v1)) rfl rfl c7
      generalize z8q : (2 * v1) = z8
      have e9 : (Int32.toInt z8) = 2 * (Int32.toInt v1) := by rw [← z8q]; exact ic_mulc (by decide) rfl (by omega) (by omega)
      refine Ex.ck (by omega) (by omega) ?_
      have hm_ : 0 ≤ (Int32.toInt (g 43 (Int32.toNatClampNeg z8))) ∧ (Int32.toInt (g 43 (Int32.toNatClampNeg z8))) ≤ 11 := hJ.see (k := v1) (j := z8) (by omega) (by omega) (by omega)
      refine Ex.cb (sX12_late fu hfu (g 43 (Int32.toNatClampNeg z8)) g L hI hJ (by omega)) (fun x10 g11 L12 hq14 => ?_)
      obtain ⟨hI, hJ, kk0, kk1⟩ := hq14
      have hI : zI MT g11 := hI
      have hJ : mJ g11 := hJ
      have k0_0 : g11 0 18 = g0 0 18 := kk0.trans k0_0
      have k0_1 : g11 0 2 = g0 0 2 := kk1.trans k0_1
      have e15 : (Int32.toInt z8) = 2 * (Int32.toInt v1) := by rw [← z8q]; exact ic_mulc (by decide) rfl (by omega) (by omega)
      generalize z16q : (z8 + 1) = z16
      have e17 : (Int32.toInt z16) = (Int32.toInt z8) + 1 := by rw [← z16q]; exact ic_addc rfl (by decide) (by omega) (by omega)
      refine Ex.ck (by omega) (by omega) ?_
      refine Ex.ite (fun c18 => ?_) (fun c18 => ?_)
      ·
        have c18 := icc_eq (m := (Int32.toInt x10)) (n := (Int32.toInt (g11 43 (Int32.toNatClampNeg z16)))) rfl rfl c18
        generalize z19q : (v1 + 1) = z19
        have e20 : (Int32.toInt z19) = (Int32.toInt v1) + 1 := by rw [← z19q]; exact ic_addc rfl (by decide) (by omega) (by omega)
        exact ih6 (z19, g11, L12) ⟨(show (0 ≤ (Int32.toInt z19) ∧ (Int32.toInt z19) ≤ 8) from by omega), hI, hJ, k0_0, k0_1⟩ (by show 9 - (Int32.toInt z19) < _; omega) (by omega)
      ·
        have c18 := icc_neq (m := (Int32.toInt x10)) (n := (Int32.toInt (g11 43 (Int32.toNatClampNeg z16)))) rfl rfl c18
        refine Ex.ckb rfl ?_
        exact Ex.ret ⟨hI, hJ, k0_0, k0_1, (by decide)⟩
  exact lp6 0 g2 L3 (by decide) hI hJ k0_0 k0_1
set_option maxHeartbeats 4000000 in
set_option maxRecDepth 100000 in
theorem sX12_fits (fu : Nat) (hfu : 1180591620717411303424 ≤ fu) (p1 : Int32) (g0 : Nat → Nat → Int32) (L0 : Nat → Nat → Int64) (hI : zI MT g0) (hJ : mJ g0) : Ex (fX12_fits fu p1 g0 L0) (fun (r : Int32) (g1 : Nat → Nat → Int32) (L1 : Nat → Nat → Int64) => zI MT g1 ∧ mJ g1 ∧ g1 0 18 = g0 0 18 ∧ g1 0 2 = g0 0 2) := by
  have k0_0 : g0 0 18 = g0 0 18 := rfl
  have k0_1 : g0 0 2 = g0 0 2 := rfl
  unfold fX12_fits
  refine Ex.sti (hI.updN rfl) (fun g1 g1e hI => ?_)
  have k0_0 : g1 0 18 = g0 0 18 := by rw [g1e]; exact k0_0
  have k0_1 : g1 0 2 = g0 0 2 := by rw [g1e]; exact k0_1
  have hJ : mJ g1 := by rw [g1e]; exact mJ.upd hJ rfl
  refine Ex.cb (sX12_isWhat fu hfu p1 2 g1 L0 hI hJ) (fun x2 g3 L4 hq6 => ?_)
  obtain ⟨hI, hJ, kk0, kk1, rb_, ip0⟩ := hq6
  have b7 : 0 ≤ (Int32.toInt x2) ∧ (Int32.toInt x2) ≤ 1 := rb_
  have ip8 : (Int32.toInt x2) = 1 → 0 ≤ (Int32.toInt p1) ∧ (Int32.toInt p1) ≤ 2 := ip0
  have hI : zI MT g3 := hI
  have hJ : mJ g3 := hJ
  have k0_0 : g3 0 18 = g0 0 18 := kk0.trans k0_0
  have k0_1 : g3 0 2 = g0 0 2 := kk1.trans k0_1
  refine Ex.ite (fun c9 => ?_) (fun c9 => ?_)
  ·
    have c9 := icc_eq (m := (Int32.toInt x2)) (n := 0) rfl (by decide) c9
    exact Ex.ret ⟨hI, hJ, k0_0, k0_1⟩
  ·
    have c9 := icc_neq (m := (Int32.toInt x2)) (n := 0) rfl (by decide) c9
    have lp29 : ∀ (v1 : Int32) (v2 : Int32) (v3 : Int32) (v4 : Int32) (v5 : Int32) (v6 : Int32) (g : Nat → Nat → Int32) (L : Nat → Nat → Int64), (0 ≤ (Int32.toInt v1) ∧ (Int32.toInt v1) ≤ 2) → ((-1) ≤ (Int32.toInt v3) ∧ (Int32.toInt v3) ≤ 1899) → ((-1) ≤ (Int32.toInt v4) ∧ (Int32.toInt v4) ≤ 11) → (0 ≤ (Int32.toInt v5) ∧ (Int32.toInt v5) ≤ 1) → (0 ≤ (Int32.toInt v6) ∧ (Int32.toInt v6) ≤ 12) → zI MT g → mJ g → g 0 18 = g0 0 18 → g 0 2 = g0 0 2 → Ex (fX12_fits_l29 fu v1 v2 v3 v4 v5 v6 g L) (fun (r : Int32) (g1 : Nat → Nat → Int32) (L1 : Nat → Nat → Int64) => zI MT g1 ∧ mJ g1 ∧ g1 0 18 = g0 0 18 ∧ g1 0 2 = g0 0 2) := by
      intro v1 v2 v3 v4 v5 v6 g L hb_v1 hb_v3 hb_v4 hb_v5 hb_v6 hI hJ k0_0 k0_1
      unfold fX12_fits_l29
      refine Ex.loop (fun v => ((0 ≤ (Int32.toInt v1) ∧ (Int32.toInt v1) ≤ 2)) ∧ (((-1) ≤ (Int32.toInt (v.2.1)) ∧ (Int32.toInt (v.2.1)) ≤ 1899)) ∧ (((-1) ≤ (Int32.toInt (v.2.2.1)) ∧ (Int32.toInt (v.2.2.1)) ≤ 11)) ∧ ((0 ≤ (Int32.toInt (v.2.2.2.1)) ∧ (Int32.toInt (v.2.2.2.1)) ≤ 1)) ∧ ((0 ≤ (Int32.toInt (v.2.2.2.2.1)) ∧ (Int32.toInt (v.2.2.2.2.1)) ≤ 12)) ∧ (zI MT (v.2.2.2.2.2.1)) ∧ (mJ (v.2.2.2.2.2.1)) ∧ ((v.2.2.2.2.2.1) 0 18 = g0 0 18) ∧ ((v.2.2.2.2.2.1) 0 2 = g0 0 2)) (fun v => 13 - (Int32.toInt (v.2.2.2.2.1))) (by omega) (by show 13 - (Int32.toInt v6) < (fu : Int); omega) ⟨hb_v1, hb_v3, hb_v4, hb_v5, hb_v6, hI, hJ, k0_0, k0_1⟩ (fun k29 v hv ih29 => ?_)
      obtain ⟨v2, v3, v4, v5, v6, g, L⟩ := v
      obtain ⟨hb_v1, hb_v3, hb_v4, hb_v5, hb_v6, hI, hJ, k0_0, k0_1⟩ := hv
      have hb_v1 : (0 ≤ (Int32.toInt v1) ∧ (Int32.toInt v1) ≤ 2) := hb_v1
      have hb_v3 : ((-1) ≤ (Int32.toInt v3) ∧ (Int32.toInt v3) ≤ 1899) := hb_v3
      have hb_v4 : ((-1) ≤ (Int32.toInt v4) ∧ (Int32.toInt v4) ≤ 11) := hb_v4
      have hb_v5 : (0 ≤ (Int32.toInt v5) ∧ (Int32.toInt v5) ≤ 1) := hb_v5
      have hb_v6 : (0 ≤ (Int32.toInt v6) ∧ (Int32.toInt v6) ≤ 12) := hb_v6
      have hI : zI MT g := hI
      have hJ : mJ g := hJ
      have k0_0 : g 0 18 = g0 0 18 := k0_0
      have k0_1 : g 0 2 = g0 0 2 := k0_1
      have ih29 : ∀ v' : Int32 × Int32 × Int32 × Int32 × Int32 × (Nat → Nat → Int32) × (Nat → Nat → Int64), (((0 ≤ (Int32.toInt v1) ∧ (Int32.toInt v1) ≤ 2)) ∧ (((-1) ≤ (Int32.toInt (v'.2.1)) ∧ (Int32.toInt (v'.2.1)) ≤ 1899)) ∧ (((-1) ≤ (Int32.toInt (v'.2.2.1)) ∧ (Int32.toInt (v'.2.2.1)) ≤ 11)) ∧ ((0 ≤ (Int32.toInt (v'.2.2.2.1)) ∧ (Int32.toInt (v'.2.2.2.1)) ≤ 1)) ∧ ((0 ≤ (Int32.toInt (v'.2.2.2.2.1)) ∧ (Int32.toInt (v'.2.2.2.2.1)) ≤ 12)) ∧ (zI MT (v'.2.2.2.2.2.1)) ∧ (mJ (v'.2.2.2.2.2.1)) ∧ ((v'.2.2.2.2.2.1) 0 18 = g0 0 18) ∧ ((v'.2.2.2.2.2.1) 0 2 = g0 0 2)) → 13 - (Int32.toInt (v'.2.2.2.2.1)) < 13 - (Int32.toInt v6) → 0 < 13 - (Int32.toInt v6) → Ex (k29 v') (fun (r : Int32) (g1 : Nat → Nat → Int32) (L1 : Nat → Nat → Int64) => zI MT g1 ∧ mJ g1 ∧ g1 0 18 = g0 0 18 ∧ g1 0 2 = g0 0 2) := ih29
      show Ex (fX12_fits_s29 fu v1 k29 v2 v3 v4 v5 v6 g L) (fun (r : Int32) (g1 : Nat → Nat → Int32) (L1 : Nat → Nat → Int64) => zI MT g1 ∧ mJ g1 ∧ g1 0 18 = g0 0 18 ∧ g1 0 2 = g0 0 2)
      unfold fX12_fits_s29
      have b10 : 0 ≤ (Int32.toInt (g 0 1)) ∧ (Int32.toInt (g 0 1)) ≤ 12 := hI 0 1 0 12 rfl
      refine Ex.ite (fun c11 => ?_) (fun c11 => ?_)
      ·
        have c11 := icc_le (m := (Int32.toInt (g 0 1))) (n := (Int32.toInt v6)) rfl rfl c11
        have J177 : ∀ (t0 : Int32) (g : Nat → Nat → Int32) (L : Nat → Nat → Int64), zI MT g → mJ g → g 0 18 = g0 0 18 → g 0 2 = g0 0 2 → Ex (fX12_fits_p177 fu t0 g L) (fun (r : Int32) (g1 : Nat → Nat → Int32) (L1 : Nat → Nat → Int64) => zI MT g1 ∧ mJ g1 ∧ g1 0 18 = g0 0 18 ∧ g1 0 2 = g0 0 2) := by
          intro t0 g L hI hJ k0_0 k0_1
          unfold fX12_fits_p177
          exact Ex.ret ⟨hI, hJ, k0_0, k0_1⟩
        refine Ex.ite (fun c12 => ?_) (fun c12 => ?_)
        ·
          have c12 := icc_eq (m := (Int32.toInt v1)) (n := 0) rfl (by decide) c12
          exact J177 v2 g L hI hJ k0_0 k0_1
        ·
          have c12 := icc_neq (m := (Int32.toInt v1)) (n := 0) rfl (by decide) c12
          refine Ex.ite (fun c13 => ?_) (fun c13 => ?_)
          ·
            have c13 := icc_eq (m := (Int32.toInt v1)) (n := 1) rfl (by decide) c13
            exact J177 v3 g L hI hJ k0_0 k0_1
          ·
            have c13 := icc_neq (m := (Int32.toInt v1)) (n := 1) rfl (by decide) c13
            refine Ex.ite (fun c14 => ?_) (fun c14 => ?_)
            ·
              have c14 := icc_eq (m := (Int32.toInt v5)) (n := 0) rfl (by decide) c14
              exact J177 (-1) g L hI hJ k0_0 k0_1
            ·
              have c14 := icc_neq (m := (Int32.toInt v5)) (n := 0) rfl (by decide) c14
              exact J177 v4 g L hI hJ k0_0 k0_1
      ·
        have c11 := icc_nle (m := (Int32.toInt (g 0 1))) (n := (Int32.toInt v6)) rfl rfl c11
        generalize z15q : (0 + v6) = z15
        have e16 : (Int32.toInt z15) = 0 + (Int32.toInt v6) := by rw [← z15q]; exact ic_addc (by decide) rfl (by omega) (by omega)
        refine Ex.ck (by omega) (by omega) ?_
        refine Ex.lti (fun x17 x17e x17i => ?_)
        have lp52 : ∀ (v7 : Int32) (v2 : Int32) (v3 : Int32) (v4 : Int32) (v5 : Int32) (v8 : Int32) (g : Nat → Nat → Int32) (L : Nat → Nat → Int64), (0 ≤ (Int32.toInt v1) ∧ (Int32.toInt v1) ≤ 2) → ((-1) ≤ (Int32.toInt v3) ∧ (Int32.toInt v3) ≤ 1899) → ((-1) ≤ (Int32.toInt v4) ∧ (Int32.toInt v4) ≤ 11) → (0 ≤ (Int32.toInt v5) ∧ (Int32.toInt v5) ≤ 1) → (0 ≤ (Int32.toInt v6) ∧ (Int32.toInt v6) ≤ 11) → (0 ≤ (Int32.toInt v8) ∧ (Int32.toInt v8) ≤ 31) → zI MT g → mJ g → g 0 18 = g0 0 18 → g 0 2 = g0 0 2 → Ex (fX12_fits_l52 fu k29 v1 v6 v7 v2 v3 v4 v5 v8 g L) (fun (r : Int32) (g1 : Nat → Nat → Int32) (L1 : Nat → Nat → Int64) => zI MT g1 ∧ mJ g1 ∧ g1 0 18 = g0 0 18 ∧ g1 0 2 = g0 0 2) := by
          intro v7 v2 v3 v4 v5 v8 g L hb_v1 hb_v3 hb_v4 hb_v5 hb_v6 hb_v8 hI hJ k0_0 k0_1
          unfold fX12_fits_l52
          refine Ex.loop (fun v => ((0 ≤ (Int32.toInt v1) ∧ (Int32.toInt v1) ≤ 2)) ∧ (((-1) ≤ (Int32.toInt (v.2.1)) ∧ (Int32.toInt (v.2.1)) ≤ 1899)) ∧ (((-1) ≤ (Int32.toInt (v.2.2.1)) ∧ (Int32.toInt (v.2.2.1)) ≤ 11)) ∧ ((0 ≤ (Int32.toInt (v.2.2.2.1)) ∧ (Int32.toInt (v.2.2.2.1)) ≤ 1)) ∧ ((0 ≤ (Int32.toInt v6) ∧ (Int32.toInt v6) ≤ 11)) ∧ ((0 ≤ (Int32.toInt (v.2.2.2.2.1)) ∧ (Int32.toInt (v.2.2.2.2.1)) ≤ 31)) ∧ (zI MT (v.2.2.2.2.2.1)) ∧ (mJ (v.2.2.2.2.2.1)) ∧ ((v.2.2.2.2.2.1) 0 18 = g0 0 18) ∧ ((v.2.2.2.2.2.1) 0 2 = g0 0 2)) (fun v => 32 - (Int32.toInt (v.2.2.2.2.1))) (by omega) (by show 32 - (Int32.toInt v8) < (fu : Int); omega) ⟨hb_v1, hb_v3, hb_v4, hb_v5, hb_v6, hb_v8, hI, hJ, k0_0, k0_1⟩ (fun k52 v hv ih52 => ?_)
          obtain ⟨v2, v3, v4, v5, v8, g, L⟩ := v
          obtain ⟨hb_v1, hb_v3, hb_v4, hb_v5, hb_v6, hb_v8, hI, hJ, k0_0, k0_1⟩ := hv
          have hb_v1 : (0 ≤ (Int32.toInt v1) ∧ (Int32.toInt v1) ≤ 2) := hb_v1
          have hb_v3 : ((-1) ≤ (Int32.toInt v3) ∧ (Int32.toInt v3) ≤ 1899) := hb_v3
          have hb_v4 : ((-1) ≤ (Int32.toInt v4) ∧ (Int32.toInt v4) ≤ 11) := hb_v4
          have hb_v5 : (0 ≤ (Int32.toInt v5) ∧ (Int32.toInt v5) ≤ 1) := hb_v5
          have hb_v6 : (0 ≤ (Int32.toInt v6) ∧ (Int32.toInt v6) ≤ 11) := hb_v6
          have hb_v8 : (0 ≤ (Int32.toInt v8) ∧ (Int32.toInt v8) ≤ 31) := hb_v8
          have hI : zI MT g := hI
          have hJ : mJ g := hJ
          have k0_0 : g 0 18 = g0 0 18 := k0_0
          have k0_1 : g 0 2 = g0 0 2 := k0_1
          have ih52 : ∀ v' : Int32 × Int32 × Int32 × Int32 × Int32 × (Nat → Nat → Int32) × (Nat → Nat → Int64), (((0 ≤ (Int32.toInt v1) ∧ (Int32.toInt v1) ≤ 2)) ∧ (((-1) ≤ (Int32.toInt (v'.2.1)) ∧ (Int32.toInt (v'.2.1)) ≤ 1899)) ∧ (((-1) ≤ (Int32.toInt (v'.2.2.1)) ∧ (Int32.toInt (v'.2.2.1)) ≤ 11)) ∧ ((0 ≤ (Int32.toInt (v'.2.2.2.1)) ∧ (Int32.toInt (v'.2.2.2.1)) ≤ 1)) ∧ ((0 ≤ (Int32.toInt v6) ∧ (Int32.toInt v6) ≤ 11)) ∧ ((0 ≤ (Int32.toInt (v'.2.2.2.2.1)) ∧ (Int32.toInt (v'.2.2.2.2.1)) ≤ 31)) ∧ (zI MT (v'.2.2.2.2.2.1)) ∧ (mJ (v'.2.2.2.2.2.1)) ∧ ((v'.2.2.2.2.2.1) 0 18 = g0 0 18) ∧ ((v'.2.2.2.2.2.1) 0 2 = g0 0 2)) → 32 - (Int32.toInt (v'.2.2.2.2.1)) < 32 - (Int32.toInt v8) → 0 < 32 - (Int32.toInt v8) → Ex (k52 v') (fun (r : Int32) (g1 : Nat → Nat → Int32) (L1 : Nat → Nat → Int64) => zI MT g1 ∧ mJ g1 ∧ g1 0 18 = g0 0 18 ∧ g1 0 2 = g0 0 2) := ih52
          show Ex (fX12_fits_s52 fu k29 v1 v6 v7 k52 v2 v3 v4 v5 v8 g L) (fun (r : Int32) (g1 : Nat → Nat → Int32) (L1 : Nat → Nat → Int64) => zI MT g1 ∧ mJ g1 ∧ g1 0 18 = g0 0 18 ∧ g1 0 2 = g0 0 2)
          unfold fX12_fits_s52
          refine Ex.ite (fun c18 => ?_) (fun c18 => ?_)
          ·
            have c18 := icc_lt (m := 30) (n := (Int32.toInt v8)) (by decide) rfl c18
            generalize z19q : (0 + v6) = z19
            have e20 : (Int32.toInt z19) = 0 + (Int32.toInt v6) := by rw [← z19q]; exact ic_addc (by decide) rfl (by omega) (by omega)
            refine Ex.ck (by omega) (by omega) ?_
            refine Ex.sti (hI.updN rfl) (fun g21 g21e hI => ?_)
            have k0_0 : g21 0 18 = g0 0 18 := by rw [g21e]; exact k0_0
            have k0_1 : g21 0 2 = g0 0 2 := by rw [g21e]; exact k0_1
            have hJ : mJ g21 := by rw [g21e]; exact mJ.upd hJ rfl
            generalize z22q : (v6 + 1) = z22
            have e23 : (Int32.toInt z22) = (Int32.toInt v6) + 1 := by rw [← z22q]; exact ic_addc rfl (by decide) (by omega) (by omega)
            exact ih29 (v2, v3, v4, v5, z22, g21, L) ⟨(show (0 ≤ (Int32.toInt v1) ∧ (Int32.toInt v1) ≤ 2) from by omega), (show ((-1) ≤ (Int32.toInt v3) ∧ (Int32.toInt v3) ≤ 1899) from by omega), (show ((-1) ≤ (Int32.toInt v4) ∧ (Int32.toInt v4) ≤ 11) from by omega), (show (0 ≤ (Int32.toInt v5) ∧ (Int32.toInt v5) ≤ 1) from by omega), (show (0 ≤ (Int32.toInt z22) ∧ (Int32.toInt z22) ≤ 12) from by omega), hI, hJ, k0_0, k0_1⟩ (by show 13 - (Int32.toInt z22) < _; omega) (by omega)
          ·
            have c18 := icc_nlt (m := 30) (n := (Int32.toInt v8)) (by decide) rfl c18
            generalize z24q : (0 + v6) = z24
            have e25 : (Int32.toInt z24) = 0 + (Int32.toInt v6) := by rw [← z24q]; exact ic_addc (by decide) rfl (by omega) (by omega)
            refine Ex.ck (by omega) (by omega) ?_
            refine Ex.sti (hI.updN rfl) (fun g26 g26e hI => ?_)
            have k0_0 : g26 0 18 = g0 0 18 := by rw [g26e]; exact k0_0
            have k0_1 : g26 0 2 = g0 0 2 := by rw [g26e]; exact k0_1
            have hJ : mJ g26 := by rw [g26e]; exact mJ.upd hJ rfl
            refine Ex.cb (sX12_isSeen fu hfu g26 L hI hJ) (fun x27 g28 L29 hq31 => ?_)
            obtain ⟨hI, hJ, kk0, kk1, rb_⟩ := hq31
            have b32 : 0 ≤ (Int32.toInt x27) ∧ (Int32.toInt x27) ≤ 1 := rb_
            have hI : zI MT g28 := hI
            have hJ : mJ g28 := hJ
            have k0_0 : g28 0 18 = g0 0 18 := kk0.trans k0_0
            have k0_1 : g28 0 2 = g0 0 2 := kk1.trans k0_1
            have J126 : ∀ (v2 : Int32) (v3 : Int32) (v4 : Int32) (v5 : Int32) (g : Nat → Nat → Int32) (L : Nat → Nat → Int64), (0 ≤ (Int32.toInt v1) ∧ (Int32.toInt v1) ≤ 2) → ((-1) ≤ (Int32.toInt v3) ∧ (Int32.toInt v3) ≤ 1899) → ((-1) ≤ (Int32.toInt v4) ∧ (Int32.toInt v4) ≤ 11) → (0 ≤ (Int32.toInt v5) ∧ (Int32.toInt v5) ≤ 1) → (0 ≤ (Int32.toInt v6) ∧ (Int32.toInt v6) ≤ 11) → (0 ≤ (Int32.toInt v8) ∧ (Int32.toInt v8) ≤ 30) → zI MT g → mJ g → g 0 18 = g0 0 18 → g 0 2 = g0 0 2 → Ex (fX12_fits_p126 fu k29 k52 v1 v2 v3 v4 v5 v6 v7 v8 g L) (fun (r : Int32) (g1 : Nat → Nat → Int32) (L1 : Nat → Nat → Int64) => zI MT g1 ∧ mJ g1 ∧ g1 0 18 = g0 0 18 ∧ g1 0 2 = g0 0 2) := by
              intro v2 v3 v4 v5 g L hb_v1 hb_v3 hb_v4 hb_v5 hb_v6 hb_v8 hI hJ k0_0 k0_1
              unfold fX12_fits_p126
              generalize z33q : (v8 + 1) = z33
              have e34 : (Int32.toInt z33) = (Int32.toInt v8) + 1 := by rw [← z33q]; exact ic_addc rfl (by decide) (by omega) (by omega)
              exact ih52 (v2, v3, v4, v5, z33, g, L) ⟨(show (0 ≤ (Int32.toInt v1) ∧ (Int32.toInt v1) ≤ 2) from by omega), (show ((-1) ≤ (Int32.toInt v3) ∧ (Int32.toInt v3) ≤ 1899) from by omega), (show ((-1) ≤ (Int32.toInt v4) ∧ (Int32.toInt v4) ≤ 11) from by omega), (show (0 ≤ (Int32.toInt v5) ∧ (Int32.toInt v5) ≤ 1) from by omega), (show (0 ≤ (Int32.toInt v6) ∧ (Int32.toInt v6) ≤ 11) from by omega), (show (0 ≤ (Int32.toInt z33) ∧ (Int32.toInt z33) ≤ 31) from by omega), hI, hJ, k0_0, k0_1⟩ (by show 32 - (Int32.toInt z33) < _; omega) (by omega)
            refine Ex.ite (fun c35 => ?_) (fun c35 => ?_)
            ·
              have c35 := icc_eq (m := (Int32.toInt x27)) (n := 0) rfl (by decide) c35
              exact J126 v2 v3 v4 v5 g28 L29 (by omega) (by omega) (by omega) (by omega) (by omega) (by omega) hI hJ k0_0 k0_1
            ·
              have c35 := icc_neq (m := (Int32.toInt x27)) (n := 0) rfl (by decide) c35
              generalize z36q : (v2 + 1) = z36
              have J97 : ∀ (v2 : Int32) (v3 : Int32) (g : Nat → Nat → Int32) (L : Nat → Nat → Int64), (0 ≤ (Int32.toInt v1) ∧ (Int32.toInt v1) ≤ 2) → (0 ≤ (Int32.toInt v3) ∧ (Int32.toInt v3) ≤ 1899) → ((-1) ≤ (Int32.toInt v4) ∧ (Int32.toInt v4) ≤ 11) → (0 ≤ (Int32.toInt v5) ∧ (Int32.toInt v5) ≤ 1) → (0 ≤ (Int32.toInt v6) ∧ (Int32.toInt v6) ≤ 11) → (0 ≤ (Int32.toInt v8) ∧ (Int32.toInt v8) ≤ 30) → zI MT g → mJ g → g 0 18 = g0 0 18 → g 0 2 = g0 0 2 → Ex (fX12_fits_p97 fu k29 k52 v1 v2 v3 v4 v5 v6 v7 v8 g L) (fun (r : Int32) (g1 : Nat → Nat → Int32) (L1 : Nat → Nat → Int64) => zI MT g1 ∧ mJ g1 ∧ g1 0 18 = g0 0 18 ∧ g1 0 2 = g0 0 2) := by
                intro v2 v3 g L hb_v1 hb_v3 hb_v4 hb_v5 hb_v6 hb_v8 hI hJ k0_0 k0_1
                unfold fX12_fits_p97
                have J120 : ∀ (v2 : Int32) (v3 : Int32) (t0 : Int32) (g : Nat → Nat → Int32) (L : Nat → Nat → Int64), (0 ≤ (Int32.toInt v1) ∧ (Int32.toInt v1) ≤ 2) → (0 ≤ (Int32.toInt v3) ∧ (Int32.toInt v3) ≤ 1899) → (0 ≤ (Int32.toInt v6) ∧ (Int32.toInt v6) ≤ 11) → (0 ≤ (Int32.toInt v8) ∧ (Int32.toInt v8) ≤ 30) → (0 ≤ (Int32.toInt t0) ∧ (Int32.toInt t0) ≤ 1) → zI MT g → mJ g → g 0 18 = g0 0 18 → g 0 2 = g0 0 2 → Ex (fX12_fits_p120 fu k29 k52 v1 v2 v3 v6 v7 v8 t0 g L) (fun (r : Int32) (g1 : Nat → Nat → Int32) (L1 : Nat → Nat → Int64) => zI MT g1 ∧ mJ g1 ∧ g1 0 18 = g0 0 18 ∧ g1 0 2 = g0 0 2) := by
                  intro v2 v3 t0 g L hb_v1 hb_v3 hb_v6 hb_v8 hb_t0 hI hJ k0_0 k0_1
                  unfold fX12_fits_p120
                  exact J126 v2 v3 v6 t0 g L (by omega) (by omega) (by omega) (by omega) (by omega) (by omega) hI hJ k0_0 k0_1
                have J119 : ∀ (v2 : Int32) (v3 : Int32) (g : Nat → Nat → Int32) (L : Nat → Nat → Int64), (0 ≤ (Int32.toInt v1) ∧ (Int32.toInt v1) ≤ 2) → (0 ≤ (Int32.toInt v3) ∧ (Int32.toInt v3) ≤ 1899) → (0 ≤ (Int32.toInt v6) ∧ (Int32.toInt v6) ≤ 11) → (0 ≤ (Int32.toInt v8) ∧ (Int32.toInt v8) ≤ 30) → zI MT g → mJ g → g 0 18 = g0 0 18 → g 0 2 = g0 0 2 → Ex (fX12_fits_p119 fu k29 k52 v1 v2 v3 v6 v7 v8 g L) (fun (r : Int32) (g1 : Nat → Nat → Int32) (L1 : Nat → Nat → Int64) => zI MT g1 ∧ mJ g1 ∧ g1 0 18 = g0 0 18 ∧ g1 0 2 = g0 0 2) := by
                  intro v2 v3 g L hb_v1 hb_v3 hb_v6 hb_v8 hI hJ k0_0 k0_1
                  unfold fX12_fits_p119
                  exact J120 v2 v3 0 g L (by omega) (by omega) (by omega) (by omega) (by decide) hI hJ k0_0 k0_1
                refine Ex.ite (fun c37 => ?_) (fun c37 => ?_)
                ·
                  have c37 := icc_eq (m := (Int32.toInt v5)) (n := 0) rfl (by decide) c37
                  exact J119 v2 v3 g L (by omega) (by omega) (by omega) (by omega) hI hJ k0_0 k0_1
                ·
                  have c37 := icc_neq (m := (Int32.toInt v5)) (n := 0) rfl (by decide) c37
                  have J115 : ∀ (v2 : Int32) (v3 : Int32) (g : Nat → Nat → Int32) (L : Nat → Nat → Int64), (0 ≤ (Int32.toInt v1) ∧ (Int32.toInt v1) ≤ 2) → (0 ≤ (Int32.toInt v3) ∧ (Int32.toInt v3) ≤ 1899) → (0 ≤ (Int32.toInt v6) ∧ (Int32.toInt v6) ≤ 11) → (0 ≤ (Int32.toInt v8) ∧ (Int32.toInt v8) ≤ 30) → zI MT g → mJ g → g 0 18 = g0 0 18 → g 0 2 = g0 0 2 → Ex (fX12_fits_p115 fu k29 k52 v1 v2 v3 v6 v7 v8 g L) (fun (r : Int32) (g1 : Nat → Nat → Int32) (L1 : Nat → Nat → Int64) => zI MT g1 ∧ mJ g1 ∧ g1 0 18 = g0 0 18 ∧ g1 0 2 = g0 0 2) := by
                    intro v2 v3 g L hb_v1 hb_v3 hb_v6 hb_v8 hI hJ k0_0 k0_1
                    unfold fX12_fits_p115
                    exact J120 v2 v3 1 g L (by omega) (by omega) (by omega) (by omega) (by decide) hI hJ k0_0 k0_1
                  refine Ex.ite (fun c38 => ?_) (fun c38 => ?_)
                  ·
                    have c38 := icc_eq (m := (Int32.toInt v4)) (n := (-1)) rfl (by decide) c38
                    exact J115 v2 v3 g L (by omega) (by omega) (by omega) (by omega) hI hJ k0_0 k0_1
                  ·
                    have c38 := icc_neq (m := (Int32.toInt v4)) (n := (-1)) rfl (by decide) c38
                    refine Ex.ite (fun c39 => ?_) (fun c39 => ?_)
                    ·
                      have c39 := icc_eq (m := (Int32.toInt v4)) (n := (Int32.toInt v6)) rfl rfl c39
                      exact J115 v2 v3 g L (by omega) (by omega) (by omega) (by omega) hI hJ k0_0 k0_1
                    ·
                      have c39 := icc_neq (m := (Int32.toInt v4)) (n := (Int32.toInt v6)) rfl rfl c39
                      exact J119 v2 v3 g L (by omega) (by omega) (by omega) (by omega) hI hJ k0_0 k0_1
              refine Ex.ite (fun c40 => ?_) (fun c40 => ?_)
              ·
                have c40 := icc_eq (m := (Int32.toInt v3)) (n := (-1)) rfl (by decide) c40
                generalize z41q : (100 * v6) = z41
                have e42 : (Int32.toInt z41) = 100 * (Int32.toInt v6) := by rw [← z41q]; exact ic_mulc (by decide) rfl (by omega) (by omega)
                generalize z43q : (z41 + v8) = z43
                have e44 : (Int32.toInt z43) = (Int32.toInt z41) + (Int32.toInt v8) := by rw [← z43q]; exact ic_addc rfl rfl (by omega) (by omega)
                refine Ex.lti (fun x45 x45e x45i => ?_)
                exact J97 z36 x45 g28 L29 (by omega) (by omega) (by omega) (by omega) (by omega) (by omega) hI hJ k0_0 k0_1
              ·
                have c40 := icc_neq (m := (Int32.toInt v3)) (n := (-1)) rfl (by decide) c40
                exact J97 z36 v3 g28 L29 (by omega) (by omega) (by omega) (by omega) (by omega) (by omega) hI hJ k0_0 k0_1
        exact lp52 x17 v2 v3 v4 v5 0 g L (by omega) (by omega) (by omega) (by omega) (by omega) (by decide) hI hJ k0_0 k0_1
    exact lp29 p1 0 (-1) (-1) 1 0 g3 L4 (by omega) (by decide) (by decide) (by decide) (by decide) hI hJ k0_0 k0_1
set_option maxHeartbeats 4000000 in
set_option maxRecDepth 100000 in
theorem sX12_ways (fu : Nat) (hfu : 1180591620717411303424 ≤ fu) (g0 : Nat → Nat → Int32) (L0 : Nat → Nat → Int64) (hI : zI MT g0) (hJ : mJ g0) : Ex (fX12_ways fu g0 L0) (fun (r : Unit) (g1 : Nat → Nat → Int32) (L1 : Nat → Nat → Int64) => zI MT g1 ∧ mJ g1 ∧ g1 0 18 = g0 0 18 ∧ g1 0 2 = g0 0 2) := by
  have k0_0 : g0 0 18 = g0 0 18 := rfl
  have k0_1 : g0 0 2 = g0 0 2 := rfl
  unfold fX12_ways
  refine Ex.cb (sX12_works0 fu hfu g0 L0 hI hJ) (fun x1 g2 L3 hq5 => ?_)
  obtain ⟨hI, hJ, kk0, kk1⟩ := hq5
  have hI : zI MT g2 := hI
  have hJ : mJ g2 := hJ
  have k0_0 : g2 0 18 = g0 0 18 := kk0.trans k0_0
  have k0_1 : g2 0 2 = g0 0 2 := kk1.trans k0_1
  refine Ex.sti (hI.upd rfl (by decide) (by decide)) (fun g6 g6e hI => ?_)
  have k0_0 : g6 0 18 = g0 0 18 := by rw [g6e]; exact k0_0
  have k0_1 : g6 0 2 = g0 0 2 := by rw [g6e]; exact k0_1
  have hJ : mJ g6 := by rw [g6e]; exact mJ.upd hJ rfl
  have w7 : (Int32.toInt (g6 0 79)) = 0 := by rw [g6e, upd2_at]; decide
  have lp11 : ∀ (v1 : Int32) (g : Nat → Nat → Int32) (L : Nat → Nat → Int64), (0 ≤ (Int32.toInt v1) ∧ (Int32.toInt v1) ≤ 12) → (0 ≤ (Int32.toInt (g 0 79)) ∧ (Int32.toInt (g 0 79)) ≤ 255) → ((Int32.toInt (g 0 79)) ≤ 6 * (Int32.toInt v1)) → zI MT g → mJ g → g 0 18 = g0 0 18 → g 0 2 = g0 0 2 → Ex (fX12_ways_l11 fu v1 g L) (fun (r : Unit) (g1 : Nat → Nat → Int32) (L1 : Nat → Nat → Int64) => zI MT g1 ∧ mJ g1 ∧ g1 0 18 = g0 0 18 ∧ g1 0 2 = g0 0 2) := by
    intro v1 g L hb_v1 hw_0_79 hn_0 hI hJ k0_0 k0_1
    unfold fX12_ways_l11
    refine Ex.loop (fun v => ((0 ≤ (Int32.toInt (v.1)) ∧ (Int32.toInt (v.1)) ≤ 12)) ∧ ((0 ≤ (Int32.toInt ((v.2.1) 0 79)) ∧ (Int32.toInt ((v.2.1) 0 79)) ≤ 255)) ∧ (((Int32.toInt ((v.2.1) 0 79)) ≤ 6 * (Int32.toInt (v.1)))) ∧ (zI MT (v.2.1)) ∧ (mJ (v.2.1)) ∧ ((v.2.1) 0 18 = g0 0 18) ∧ ((v.2.1) 0 2 = g0 0 2)) (fun v => 13 - (Int32.toInt (v.1))) (by omega) (by show 13 - (Int32.toInt v1) < (fu : Int); omega) ⟨hb_v1, hw_0_79, hn_0, hI, hJ, k0_0, k0_1⟩ (fun k11 v hv ih11 => ?_)
    obtain ⟨v1, g, L⟩ := v
    obtain ⟨hb_v1, hw_0_79, hn_0, hI, hJ, k0_0, k0_1⟩ := hv
    have hb_v1 : (0 ≤ (Int32.toInt v1) ∧ (Int32.toInt v1) ≤ 12) := hb_v1
    have hw_0_79 : (0 ≤ (Int32.toInt (g 0 79)) ∧ (Int32.toInt (g 0 79)) ≤ 255) := hw_0_79
    have hn_0 : ((Int32.toInt (g 0 79)) ≤ 6 * (Int32.toInt v1)) := hn_0
    have hI : zI MT g := hI
    have hJ : mJ g := hJ
    have k0_0 : g 0 18 = g0 0 18 := k0_0
    have k0_1 : g 0 2 = g0 0 2 := k0_1
    have ih11 : ∀ v' : Int32 × (Nat → Nat → Int32) × (Nat → Nat → Int64), (((0 ≤ (Int32.toInt (v'.1)) ∧ (Int32.toInt (v'.1)) ≤ 12)) ∧ ((0 ≤ (Int32.toInt ((v'.2.1) 0 79)) ∧ (Int32.toInt ((v'.2.1) 0 79)) ≤ 255)) ∧ (((Int32.toInt ((v'.2.1) 0 79)) ≤ 6 * (Int32.toInt (v'.1)))) ∧ (zI MT (v'.2.1)) ∧ (mJ (v'.2.1)) ∧ ((v'.2.1) 0 18 = g0 0 18) ∧ ((v'.2.1) 0 2 = g0 0 2)) → 13 - (Int32.toInt (v'.1)) < 13 - (Int32.toInt v1) → 0 < 13 - (Int32.toInt v1) → Ex (k11 v') (fun (r : Unit) (g1 : Nat → Nat → Int32) (L1 : Nat → Nat → Int64) => zI MT g1 ∧ mJ g1 ∧ g1 0 18 = g0 0 18 ∧ g1 0 2 = g0 0 2) := ih11
    show Ex (fX12_ways_s11 fu k11 v1 g L) (fun (r : Unit) (g1 : Nat → Nat → Int32) (L1 : Nat → Nat → Int64) => zI MT g1 ∧ mJ g1 ∧ g1 0 18 = g0 0 18 ∧ g1 0 2 = g0 0 2)
    unfold fX12_ways_s11
    have b8 : 0 ≤ (Int32.toInt (g 0 1)) ∧ (Int32.toInt (g 0 1)) ≤ 12 := hI 0 1 0 12 rfl
    refine Ex.ite (fun c9 => ?_) (fun c9 => ?_)
    ·
      have c9 := icc_le (m := (Int32.toInt (g 0 1))) (n := (Int32.toInt v1)) rfl rfl c9
      exact Ex.ret ⟨hI, hJ, k0_0, k0_1⟩
    ·
      have c9 := icc_nle (m := (Int32.toInt (g 0 1))) (n := (Int32.toInt v1)) rfl rfl c9
      have lp21 : ∀ (v2 : Int32) (g : Nat → Nat → Int32) (L : Nat → Nat → Int64), (0 ≤ (Int32.toInt v1) ∧ (Int32.toInt v1) ≤ 11) → (0 ≤ (Int32.toInt v2) ∧ (Int32.toInt v2) ≤ 6) → (0 ≤ (Int32.toInt (g 0 79)) ∧ (Int32.toInt (g 0 79)) ≤ 255) → ((Int32.toInt (g 0 79)) ≤ 6 * (Int32.toInt v1) + (Int32.toInt v2)) → zI MT g → mJ g → g 0 18 = g0 0 18 → g 0 2 = g0 0 2 → Ex (fX12_ways_l21 fu k11 v1 v2 g L) (fun (r : Unit) (g1 : Nat → Nat → Int32) (L1 : Nat → Nat → Int64) => zI MT g1 ∧ mJ g1 ∧ g1 0 18 = g0 0 18 ∧ g1 0 2 = g0 0 2) := by
        intro v2 g L hb_v1 hb_v2 hw_0_79 hn_0 hI hJ k0_0 k0_1
        unfold fX12_ways_l21
        refine Ex.loop (fun v => ((0 ≤ (Int32.toInt v1) ∧ (Int32.toInt v1) ≤ 11)) ∧ ((0 ≤ (Int32.toInt (v.1)) ∧ (Int32.toInt (v.1)) ≤ 6)) ∧ ((0 ≤ (Int32.toInt ((v.2.1) 0 79)) ∧ (Int32.toInt ((v.2.1) 0 79)) ≤ 255)) ∧ (((Int32.toInt ((v.2.1) 0 79)) ≤ 6 * (Int32.toInt v1) + (Int32.toInt (v.1)))) ∧ (zI MT (v.2.1)) ∧ (mJ (v.2.1)) ∧ ((v.2.1) 0 18 = g0 0 18) ∧ ((v.2.1) 0 2 = g0 0 2)) (fun v => 7 - (Int32.toInt (v.1))) (by omega) (by show 7 - (Int32.toInt v2) < (fu : Int); omega) ⟨hb_v1, hb_v2, hw_0_79, hn_0, hI, hJ, k0_0, k0_1⟩ (fun k21 v hv ih21 => ?_)
        obtain ⟨v2, g, L⟩ := v
        obtain ⟨hb_v1, hb_v2, hw_0_79, hn_0, hI, hJ, k0_0, k0_1⟩ := hv
        have hb_v1 : (0 ≤ (Int32.toInt v1) ∧ (Int32.toInt v1) ≤ 11) := hb_v1
        have hb_v2 : (0 ≤ (Int32.toInt v2) ∧ (Int32.toInt v2) ≤ 6) := hb_v2
        have hw_0_79 : (0 ≤ (Int32.toInt (g 0 79)) ∧ (Int32.toInt (g 0 79)) ≤ 255) := hw_0_79
        have hn_0 : ((Int32.toInt (g 0 79)) ≤ 6 * (Int32.toInt v1) + (Int32.toInt v2)) := hn_0
        have hI : zI MT g := hI
        have hJ : mJ g := hJ
        have k0_0 : g 0 18 = g0 0 18 := k0_0
        have k0_1 : g 0 2 = g0 0 2 := k0_1
        have ih21 : ∀ v' : Int32 × (Nat → Nat → Int32) × (Nat → Nat → Int64), (((0 ≤ (Int32.toInt v1) ∧ (Int32.toInt v1) ≤ 11)) ∧ ((0 ≤ (Int32.toInt (v'.1)) ∧ (Int32.toInt (v'.1)) ≤ 6)) ∧ ((0 ≤ (Int32.toInt ((v'.2.1) 0 79)) ∧ (Int32.toInt ((v'.2.1) 0 79)) ≤ 255)) ∧ (((Int32.toInt ((v'.2.1) 0 79)) ≤ 6 * (Int32.toInt v1) + (Int32.toInt (v'.1)))) ∧ (zI MT (v'.2.1)) ∧ (mJ (v'.2.1)) ∧ ((v'.2.1) 0 18 = g0 0 18) ∧ ((v'.2.1) 0 2 = g0 0 2)) → 7 - (Int32.toInt (v'.1)) < 7 - (Int32.toInt v2) → 0 < 7 - (Int32.toInt v2) → Ex (k21 v') (fun (r : Unit) (g1 : Nat → Nat → Int32) (L1 : Nat → Nat → Int64) => zI MT g1 ∧ mJ g1 ∧ g1 0 18 = g0 0 18 ∧ g1 0 2 = g0 0 2) := ih21
        show Ex (fX12_ways_s21 fu k11 v1 k21 v2 g L) (fun (r : Unit) (g1 : Nat → Nat → Int32) (L1 : Nat → Nat → Int64) => zI MT g1 ∧ mJ g1 ∧ g1 0 18 = g0 0 18 ∧ g1 0 2 = g0 0 2)
        unfold fX12_ways_s21
        refine Ex.ck (by omega) (by omega) ?_
        have b10 : 0 ≤ (Int32.toInt (g 8 (Int32.toNatClampNeg v1))) ∧ (Int32.toInt (g 8 (Int32.toNatClampNeg v1))) ≤ 6 := hI 8 _ 0 6 rfl
        refine Ex.ite (fun c11 => ?_) (fun c11 => ?_)
        ·
          have c11 := icc_le (m := (Int32.toInt (g 8 (Int32.toNatClampNeg v1)))) (n := (Int32.toInt v2)) rfl rfl c11
          generalize z12q : (v1 + 1) = z12
          have e13 : (Int32.toInt z12) = (Int32.toInt v1) + 1 := by rw [← z12q]; exact ic_addc rfl (by decide) (by omega) (by omega)
          exact ih11 (z12, g, L) ⟨(show (0 ≤ (Int32.toInt z12) ∧ (Int32.toInt z12) ≤ 12) from by omega), (show (0 ≤ (Int32.toInt (g 0 79)) ∧ (Int32.toInt (g 0 79)) ≤ 255) from by omega), (show ((Int32.toInt (g 0 79)) ≤ 6 * (Int32.toInt z12)) from by omega), hI, hJ, k0_0, k0_1⟩ (by show 13 - (Int32.toInt z12) < _; omega) (by omega)
        ·
          have c11 := icc_nle (m := (Int32.toInt (g 8 (Int32.toNatClampNeg v1)))) (n := (Int32.toInt v2)) rfl rfl c11
          generalize z14q : (6 * v1) = z14
          have e15 : (Int32.toInt z14) = 6 * (Int32.toInt v1) := by rw [← z14q]; exact ic_mulc (by decide) rfl (by omega) (by omega)
          generalize z16q : (z14 + v2) = z16
          have e17 : (Int32.toInt z16) = (Int32.toInt z14) + (Int32.toInt v2) := by rw [← z16q]; exact ic_addc rfl rfl (by omega) (by omega)
          refine Ex.ck (by omega) (by omega) ?_
          have b18 : 0 ≤ (Int32.toInt (g 9 (Int32.toNatClampNeg z16))) ∧ (Int32.toInt (g 9 (Int32.toNatClampNeg z16))) ≤ 11 := hI 9 _ 0 11 rfl
          refine Ex.lti (fun x19 x19e x19i => ?_)
          generalize z20q : (24 + x19) = z20
          have e21 : (Int32.toInt z20) = 24 + (Int32.toInt x19) := by rw [← z20q]; exact ic_addc (by decide) rfl (by omega) (by omega)
          refine Ex.ck (by omega) (by omega) ?_
          generalize z22q : (24 + v1) = z22
          have e23 : (Int32.toInt z22) = 24 + (Int32.toInt v1) := by rw [← z22q]; exact ic_addc (by decide) rfl (by omega) (by omega)
          refine Ex.ck (by omega) (by omega) ?_
          refine Ex.cb (sX12_isStair fu hfu (g 12 (Int32.toNatClampNeg z20)) (g 12 (Int32.toNatClampNeg z22)) g L hI hJ) (fun x24 g25 L26 hq28 => ?_)
          obtain ⟨hI, hJ, kk0, kk1, kk2, rb_⟩ := hq28
          have b29 : 0 ≤ (Int32.toInt x24) ∧ (Int32.toInt x24) ≤ 1 := rb_
          have hI : zI MT g25 := hI
          have hJ : mJ g25 := hJ
          have w30 : (Int32.toInt (g25 0 79)) = (Int32.toInt (g 0 79)) := congrArg Int32.toInt kk0
          have k0_0 : g25 0 18 = g0 0 18 := kk1.trans k0_0
          have k0_1 : g25 0 2 = g0 0 2 := kk2.trans k0_1
          have J155 : ∀ (g : Nat → Nat → Int32) (L : Nat → Nat → Int64), (0 ≤ (Int32.toInt v1) ∧ (Int32.toInt v1) ≤ 11) → (0 ≤ (Int32.toInt v2) ∧ (Int32.toInt v2) ≤ 5) → (0 ≤ (Int32.toInt (g 0 79)) ∧ (Int32.toInt (g 0 79)) ≤ 255) → ((Int32.toInt (g 0 79)) ≤ 6 * (Int32.toInt v1) + (Int32.toInt v2) + 1) → zI MT g → mJ g → g 0 18 = g0 0 18 → g 0 2 = g0 0 2 → Ex (fX12_ways_p155 fu k11 k21 v1 v2 g L) (fun (r : Unit) (g1 : Nat → Nat → Int32) (L1 : Nat → Nat → Int64) => zI MT g1 ∧ mJ g1 ∧ g1 0 18 = g0 0 18 ∧ g1 0 2 = g0 0 2) := by
            intro g L hb_v1 hb_v2 hw_0_79 hn_0 hI hJ k0_0 k0_1
            unfold fX12_ways_p155
            generalize z31q : (v2 + 1) = z31
            have e32 : (Int32.toInt z31) = (Int32.toInt v2) + 1 := by rw [← z31q]; exact ic_addc rfl (by decide) (by omega) (by omega)
            exact ih21 (z31, g, L) ⟨(show (0 ≤ (Int32.toInt v1) ∧ (Int32.toInt v1) ≤ 11) from by omega), (show (0 ≤ (Int32.toInt z31) ∧ (Int32.toInt z31) ≤ 6) from by omega), (show (0 ≤ (Int32.toInt (g 0 79)) ∧ (Int32.toInt (g 0 79)) ≤ 255) from by omega), (show ((Int32.toInt (g 0 79)) ≤ 6 * (Int32.toInt v1) + (Int32.toInt z31)) from by omega), hI, hJ, k0_0, k0_1⟩ (by show 7 - (Int32.toInt z31) < _; omega) (by omega)
          refine Ex.ite (fun c33 => ?_) (fun c33 => ?_)
          ·
            have c33 := icc_eq (m := (Int32.toInt x24)) (n := 0) rfl (by decide) c33
            exact J155 g25 L26 (by omega) (by omega) (by omega) (by omega) hI hJ k0_0 k0_1
          ·
            have c33 := icc_neq (m := (Int32.toInt x24)) (n := 0) rfl (by decide) c33
            have b34 : 0 ≤ (Int32.toInt (g25 0 79)) ∧ (Int32.toInt (g25 0 79)) ≤ 72 := hI 0 79 0 72 rfl
            refine Ex.ck (by omega) (by omega) ?_
            refine Ex.sti (hI.upd rfl (by omega) (by omega)) (fun g35 g35e hI => ?_)
            have w36 : (Int32.toInt (g35 0 79)) = (Int32.toInt (g25 0 79)) := by rw [g35e]; rfl
            have k0_0 : g35 0 18 = g0 0 18 := by rw [g35e]; exact k0_0
            have k0_1 : g35 0 2 = g0 0 2 := by rw [g35e]; exact k0_1
            have hJ : mJ g35 := by rw [g35e]; exact mJ.upd hJ rfl
            have b37 : 0 ≤ (Int32.toInt (g35 0 79)) ∧ (Int32.toInt (g35 0 79)) ≤ 72 := hI 0 79 0 72 rfl
            refine Ex.ck (by omega) (by omega) ?_
            refine Ex.ck (by omega) (by omega) ?_
            refine Ex.sti (hI.updN rfl) (fun g38 g38e hI => ?_)
            have w39 : (Int32.toInt (g38 0 79)) = (Int32.toInt (g35 0 79)) := by rw [g38e]; rfl
            have k0_0 : g38 0 18 = g0 0 18 := by rw [g38e]; exact k0_0
            have k0_1 : g38 0 2 = g0 0 2 := by rw [g38e]; exact k0_1
            have hJ : mJ g38 := by rw [g38e]; exact mJ.upd hJ rfl
            have b40 : 0 ≤ (Int32.toInt (g38 0 79)) ∧ (Int32.toInt (g38 0 79)) ≤ 72 := hI 0 79 0 72 rfl
            refine Ex.cb (sX12_way fu hfu x19 v1 g38 L26 hI hJ (by omega) (by omega)) (fun x41 g42 L43 hq45 => ?_)
            obtain ⟨hI, hJ, kk0, kk1, kk2⟩ := hq45
            have hI : zI MT g42 := hI
            have hJ : mJ g42 := hJ
            have w46 : (Int32.toInt (g42 0 79)) = (Int32.toInt (g38 0 79)) := congrArg Int32.toInt kk0
            have k0_0 : g42 0 18 = g0 0 18 := kk1.trans k0_0
            have k0_1 : g42 0 2 = g0 0 2 := kk2.trans k0_1
            refine Ex.ck (by omega) (by omega) ?_
            refine Ex.sti (hI.updN rfl) (fun g47 g47e hI => ?_)
            have w48 : (Int32.toInt (g47 0 79)) = (Int32.toInt (g42 0 79)) := by rw [g47e]; rfl
            have k0_0 : g47 0 18 = g0 0 18 := by rw [g47e]; exact k0_0
            have k0_1 : g47 0 2 = g0 0 2 := by rw [g47e]; exact k0_1
            have hJ : mJ g47 := by rw [g47e]; exact mJ.upd hJ rfl
            have b49 : 0 ≤ (Int32.toInt (g47 0 79)) ∧ (Int32.toInt (g47 0 79)) ≤ 72 := hI 0 79 0 72 rfl
            have e50 : (Int32.toInt z22) = 24 + (Int32.toInt v1) := by rw [← z22q]; exact ic_addc (by decide) rfl (by omega) (by omega)
            refine Ex.ck (by omega) (by omega) ?_
            have e51 : (Int32.toInt z20) = 24 + (Int32.toInt x19) := by rw [← z20q]; exact ic_addc (by decide) rfl (by omega) (by omega)
            refine Ex.ck (by omega) (by omega) ?_
            have J144 : ∀ (t0 : Int32) (t1 : Int32) (g : Nat → Nat → Int32) (L : Nat → Nat → Int64), (0 ≤ (Int32.toInt v1) ∧ (Int32.toInt v1) ≤ 11) → (0 ≤ (Int32.toInt v2) ∧ (Int32.toInt v2) ≤ 5) → (0 ≤ (Int32.toInt t0) ∧ (Int32.toInt t0) ≤ 1) → (0 ≤ (Int32.toInt t1) ∧ (Int32.toInt t1) ≤ 72) → (0 ≤ (Int32.toInt (g 0 79)) ∧ (Int32.toInt (g 0 79)) ≤ 72) → ((Int32.toInt (g 0 79)) ≤ 6 * (Int32.toInt v1) + (Int32.toInt v2)) → ((Int32.toInt t1) ≤ 6 * (Int32.toInt v1) + (Int32.toInt v2)) → zI MT g → mJ g → g 0 18 = g0 0 18 → g 0 2 = g0 0 2 → Ex (fX12_ways_p144 fu k11 k21 v1 v2 t0 t1 g L) (fun (r : Unit) (g1 : Nat → Nat → Int32) (L1 : Nat → Nat → Int64) => zI MT g1 ∧ mJ g1 ∧ g1 0 18 = g0 0 18 ∧ g1 0 2 = g0 0 2) := by
              intro t0 t1 g L hb_v1 hb_v2 hb_t0 hb_t1 hw_0_79 hn_0 hn_1 hI hJ k0_0 k0_1
              unfold fX12_ways_p144
              refine Ex.ck (by omega) (by omega) ?_
              refine Ex.sti (hI.updN rfl) (fun g52 g52e hI => ?_)
              have w53 : (Int32.toInt (g52 0 79)) = (Int32.toInt (g 0 79)) := by rw [g52e]; rfl
              have k0_0 : g52 0 18 = g0 0 18 := by rw [g52e]; exact k0_0
              have k0_1 : g52 0 2 = g0 0 2 := by rw [g52e]; exact k0_1
              have hJ : mJ g52 := by rw [g52e]; exact mJ.upd hJ rfl
              have b54 : 0 ≤ (Int32.toInt (g52 0 79)) ∧ (Int32.toInt (g52 0 79)) ≤ 72 := hI 0 79 0 72 rfl
              generalize z55q : ((g52 0 79) + 1) = z55
              have e56 : (Int32.toInt z55) = (Int32.toInt (g52 0 79)) + 1 := by rw [← z55q]; exact ic_addc rfl (by decide) (by omega) (by omega)
              refine Ex.sti (hI.upd rfl (by omega) (by omega)) (fun g57 g57e hI => ?_)
              have k0_0 : g57 0 18 = g0 0 18 := by rw [g57e]; exact k0_0
              have k0_1 : g57 0 2 = g0 0 2 := by rw [g57e]; exact k0_1
              have hJ : mJ g57 := by rw [g57e]; exact mJ.upd hJ rfl
              have w58 : (Int32.toInt (g57 0 79)) = (Int32.toInt z55) := by rw [g57e, upd2_at]
              exact J155 g57 L (by omega) (by omega) (by omega) (by omega) hI hJ k0_0 k0_1
            refine Ex.ite (fun c59 => ?_) (fun c59 => ?_)
            ·
              have c59 := icc_le (m := (Int32.toInt (g47 12 (Int32.toNatClampNeg z22)))) (n := (Int32.toInt (g47 12 (Int32.toNatClampNeg z20)))) rfl rfl c59
              have hc_ : (0 : Int32).toInt = 0 := by decide
              exact J144 0 (g47 0 79) g47 L43 (by omega) (by omega) (by decide) (by omega) (by omega) (by omega) (by omega) hI hJ k0_0 k0_1
            ·
              have c59 := icc_nle (m := (Int32.toInt (g47 12 (Int32.toNatClampNeg z22)))) (n := (Int32.toInt (g47 12 (Int32.toNatClampNeg z20)))) rfl rfl c59
              have hc_ : (1 : Int32).toInt = 1 := by decide
              exact J144 1 (g47 0 79) g47 L43 (by omega) (by omega) (by decide) (by omega) (by omega) (by omega) (by omega) hI hJ k0_0 k0_1
      have hc_ : (0 : Int32).toInt = 0 := by decide
      exact lp21 0 g L (by omega) (by decide) (by omega) (by omega) hI hJ k0_0 k0_1
  have hc_ : (0 : Int32).toInt = 0 := by decide
  exact lp11 0 g6 L3 (by decide) (by omega) (by omega) hI hJ k0_0 k0_1
set_option maxHeartbeats 4000000 in
set_option maxRecDepth 100000 in
theorem sX12_streams (fu : Nat) (hfu : 1180591620717411303424 ≤ fu) (g0 : Nat → Nat → Int32) (L0 : Nat → Nat → Int64) (hI : zI MT g0) (hJ : mJ g0) : Ex (fX12_streams fu g0 L0) (fun (r : Int32) (g1 : Nat → Nat → Int32) (L1 : Nat → Nat → Int64) => zI MT g1 ∧ mJ g1 ∧ g1 0 18 = g0 0 18 ∧ g1 0 2 = g0 0 2) := by
  have k0_0 : g0 0 18 = g0 0 18 := rfl
  have k0_1 : g0 0 2 = g0 0 2 := rfl
  unfold fX12_streams
  refine Ex.sti (hI.updN rfl) (fun g1 g1e hI => ?_)
  have k0_0 : g1 0 18 = g0 0 18 := by rw [g1e]; exact k0_0
  have k0_1 : g1 0 2 = g0 0 2 := by rw [g1e]; exact k0_1
  have hJ : mJ g1 := by rw [g1e]; exact mJ.upd hJ rfl
  refine Ex.cb (sX12_ways fu hfu g1 L0 hI hJ) (fun x2 g3 L4 hq6 => ?_)
  obtain ⟨hI, hJ, kk0, kk1⟩ := hq6
  have hI : zI MT g3 := hI
  have hJ : mJ g3 := hJ
  have k0_0 : g3 0 18 = g0 0 18 := kk0.trans k0_0
  have k0_1 : g3 0 2 = g0 0 2 := kk1.trans k0_1
  have lp13 : ∀ (v1 : Int32) (v2 : Int32) (g : Nat → Nat → Int32) (L : Nat → Nat → Int64), (0 ≤ (Int32.toInt v2) ∧ (Int32.toInt v2) ≤ 73) → zI MT g → mJ g → g 0 18 = g0 0 18 → g 0 2 = g0 0 2 → Ex (fX12_streams_l13 fu v1 v2 g L) (fun (r : Int32) (g1 : Nat → Nat → Int32) (L1 : Nat → Nat → Int64) => zI MT g1 ∧ mJ g1 ∧ g1 0 18 = g0 0 18 ∧ g1 0 2 = g0 0 2) := by
    intro v1 v2 g L hb_v2 hI hJ k0_0 k0_1
    unfold fX12_streams_l13
    refine Ex.loop (fun v => ((0 ≤ (Int32.toInt (v.2.1)) ∧ (Int32.toInt (v.2.1)) ≤ 73)) ∧ (zI MT (v.2.2.1)) ∧ (mJ (v.2.2.1)) ∧ ((v.2.2.1) 0 18 = g0 0 18) ∧ ((v.2.2.1) 0 2 = g0 0 2)) (fun v => 74 - (Int32.toInt (v.2.1))) (by omega) (by show 74 - (Int32.toInt v2) < (fu : Int); omega) ⟨hb_v2, hI, hJ, k0_0, k0_1⟩ (fun k13 v hv ih13 => ?_)
    obtain ⟨v1, v2, g, L⟩ := v
    obtain ⟨hb_v2, hI, hJ, k0_0, k0_1⟩ := hv
    have hb_v2 : (0 ≤ (Int32.toInt v2) ∧ (Int32.toInt v2) ≤ 73) := hb_v2
    have hI : zI MT g := hI
    have hJ : mJ g := hJ
    have k0_0 : g 0 18 = g0 0 18 := k0_0
    have k0_1 : g 0 2 = g0 0 2 := k0_1
    have ih13 : ∀ v' : Int32 × Int32 × (Nat → Nat → Int32) × (Nat → Nat → Int64), (((0 ≤ (Int32.toInt (v'.2.1)) ∧ (Int32.toInt (v'.2.1)) ≤ 73)) ∧ (zI MT (v'.2.2.1)) ∧ (mJ (v'.2.2.1)) ∧ ((v'.2.2.1) 0 18 = g0 0 18) ∧ ((v'.2.2.1) 0 2 = g0 0 2)) → 74 - (Int32.toInt (v'.2.1)) < 74 - (Int32.toInt v2) → 0 < 74 - (Int32.toInt v2) → Ex (k13 v') (fun (r : Int32) (g1 : Nat → Nat → Int32) (L1 : Nat → Nat → Int64) => zI MT g1 ∧ mJ g1 ∧ g1 0 18 = g0 0 18 ∧ g1 0 2 = g0 0 2) := ih13
    show Ex (fX12_streams_s13 fu k13 v1 v2 g L) (fun (r : Int32) (g1 : Nat → Nat → Int32) (L1 : Nat → Nat → Int64) => zI MT g1 ∧ mJ g1 ∧ g1 0 18 = g0 0 18 ∧ g1 0 2 = g0 0 2)
    unfold fX12_streams_s13
    have b7 : 0 ≤ (Int32.toInt (g 0 79)) ∧ (Int32.toInt (g 0 79)) ≤ 72 := hI 0 79 0 72 rfl
    refine Ex.ite (fun c8 => ?_) (fun c8 => ?_)
    ·
      have c8 := icc_le (m := (Int32.toInt (g 0 79))) (n := (Int32.toInt v2)) rfl rfl c8
      exact Ex.ret ⟨hI, hJ, k0_0, k0_1⟩
    ·
      have c8 := icc_nle (m := (Int32.toInt (g 0 79))) (n := (Int32.toInt v2)) rfl rfl c8
      generalize z9q : (v2 + 1) = z9
      have e10 : (Int32.toInt z9) = (Int32.toInt v2) + 1 := by rw [← z9q]; exact ic_addc rfl (by decide) (by omega) (by omega)
      refine Ex.lti (fun x11 x11e x11i => ?_)
      have lp25 : ∀ (v1 : Int32) (v3 : Int32) (g : Nat → Nat → Int32) (L : Nat → Nat → Int64), (0 ≤ (Int32.toInt v2) ∧ (Int32.toInt v2) ≤ 72) → (1 ≤ (Int32.toInt v3) ∧ (Int32.toInt v3) ≤ 72) → zI MT g → mJ g → g 0 18 = g0 0 18 → g 0 2 = g0 0 2 → Ex (fX12_streams_l25 fu k13 v2 v1 v3 g L) (fun (r : Int32) (g1 : Nat → Nat → Int32) (L1 : Nat → Nat → Int64) => zI MT g1 ∧ mJ g1 ∧ g1 0 18 = g0 0 18 ∧ g1 0 2 = g0 0 2) := by
        intro v1 v3 g L hb_v2 hb_v3 hI hJ k0_0 k0_1
        unfold fX12_streams_l25
        refine Ex.loop (fun v => ((0 ≤ (Int32.toInt v2) ∧ (Int32.toInt v2) ≤ 72)) ∧ ((1 ≤ (Int32.toInt (v.2.1)) ∧ (Int32.toInt (v.2.1)) ≤ 72)) ∧ (zI MT (v.2.2.1)) ∧ (mJ (v.2.2.1)) ∧ ((v.2.2.1) 0 18 = g0 0 18) ∧ ((v.2.2.1) 0 2 = g0 0 2)) (fun v => 73 - (Int32.toInt (v.2.1))) (by omega) (by show 73 - (Int32.toInt v3) < (fu : Int); omega) ⟨hb_v2, hb_v3, hI, hJ, k0_0, k0_1⟩ (fun k25 v hv ih25 => ?_)
        obtain ⟨v1, v3, g, L⟩ := v
        obtain ⟨hb_v2, hb_v3, hI, hJ, k0_0, k0_1⟩ := hv
        have hb_v2 : (0 ≤ (Int32.toInt v2) ∧ (Int32.toInt v2) ≤ 72) := hb_v2
        have hb_v3 : (1 ≤ (Int32.toInt v3) ∧ (Int32.toInt v3) ≤ 72) := hb_v3
        have hI : zI MT g := hI
        have hJ : mJ g := hJ
        have k0_0 : g 0 18 = g0 0 18 := k0_0
        have k0_1 : g 0 2 = g0 0 2 := k0_1
        have ih25 : ∀ v' : Int32 × Int32 × (Nat → Nat → Int32) × (Nat → Nat → Int64), (((0 ≤ (Int32.toInt v2) ∧ (Int32.toInt v2) ≤ 72)) ∧ ((1 ≤ (Int32.toInt (v'.2.1)) ∧ (Int32.toInt (v'.2.1)) ≤ 72)) ∧ (zI MT (v'.2.2.1)) ∧ (mJ (v'.2.2.1)) ∧ ((v'.2.2.1) 0 18 = g0 0 18) ∧ ((v'.2.2.1) 0 2 = g0 0 2)) → 73 - (Int32.toInt (v'.2.1)) < 73 - (Int32.toInt v3) → 0 < 73 - (Int32.toInt v3) → Ex (k25 v') (fun (r : Int32) (g1 : Nat → Nat → Int32) (L1 : Nat → Nat → Int64) => zI MT g1 ∧ mJ g1 ∧ g1 0 18 = g0 0 18 ∧ g1 0 2 = g0 0 2) := ih25
        show Ex (fX12_streams_s25 fu k13 v2 k25 v1 v3 g L) (fun (r : Int32) (g1 : Nat → Nat → Int32) (L1 : Nat → Nat → Int64) => zI MT g1 ∧ mJ g1 ∧ g1 0 18 = g0 0 18 ∧ g1 0 2 = g0 0 2)
        unfold fX12_streams_s25
        have b12 : 0 ≤ (Int32.toInt (g 0 79)) ∧ (Int32.toInt (g 0 79)) ≤ 72 := hI 0 79 0 72 rfl
        refine Ex.ite (fun c13 => ?_) (fun c13 => ?_)
        ·
          have c13 := icc_le (m := (Int32.toInt (g 0 79))) (n := (Int32.toInt v3)) rfl rfl c13
          generalize z14q : (v2 + 1) = z14
          have e15 : (Int32.toInt z14) = (Int32.toInt v2) + 1 := by rw [← z14q]; exact ic_addc rfl (by decide) (by omega) (by omega)
          exact ih13 (v1, z14, g, L) ⟨(show (0 ≤ (Int32.toInt z14) ∧ (Int32.toInt z14) ≤ 73) from by omega), hI, hJ, k0_0, k0_1⟩ (by show 74 - (Int32.toInt z14) < _; omega) (by omega)
        ·
          have c13 := icc_nle (m := (Int32.toInt (g 0 79))) (n := (Int32.toInt v3)) rfl rfl c13
          refine Ex.ck (by omega) (by omega) ?_
          refine Ex.ck (by omega) (by omega) ?_
          have J103 : ∀ (v1 : Int32) (g : Nat → Nat → Int32) (L : Nat → Nat → Int64), (0 ≤ (Int32.toInt v2) ∧ (Int32.toInt v2) ≤ 72) → (1 ≤ (Int32.toInt v3) ∧ (Int32.toInt v3) ≤ 71) → zI MT g → mJ g → g 0 18 = g0 0 18 → g 0 2 = g0 0 2 → Ex (fX12_streams_p103 fu k13 k25 v1 v2 v3 g L) (fun (r : Int32) (g1 : Nat → Nat → Int32) (L1 : Nat → Nat → Int64) => zI MT g1 ∧ mJ g1 ∧ g1 0 18 = g0 0 18 ∧ g1 0 2 = g0 0 2) := by
            intro v1 g L hb_v2 hb_v3 hI hJ k0_0 k0_1
            unfold fX12_streams_p103
            generalize z16q : (v3 + 1) = z16
            have e17 : (Int32.toInt z16) = (Int32.toInt v3) + 1 := by rw [← z16q]; exact ic_addc rfl (by decide) (by omega) (by omega)
            exact ih25 (v1, z16, g, L) ⟨(show (0 ≤ (Int32.toInt v2) ∧ (Int32.toInt v2) ≤ 72) from by omega), (show (1 ≤ (Int32.toInt z16) ∧ (Int32.toInt z16) ≤ 72) from by omega), hI, hJ, k0_0, k0_1⟩ (by show 73 - (Int32.toInt z16) < _; omega) (by omega)
          refine Ex.ite (fun c18 => ?_) (fun c18 => ?_)
          ·
            have c18 := icc_eq (m := (Int32.toInt (g 47 (Int32.toNatClampNeg v2)))) (n := (Int32.toInt (g 47 (Int32.toNatClampNeg v3)))) rfl rfl c18
            exact J103 v1 g L (by omega) (by omega) hI hJ k0_0 k0_1
          ·
            have c18 := icc_neq (m := (Int32.toInt (g 47 (Int32.toNatClampNeg v2)))) (n := (Int32.toInt (g 47 (Int32.toNatClampNeg v3)))) rfl rfl c18
            refine Ex.ck (by omega) (by omega) ?_
            refine Ex.ck (by omega) (by omega) ?_
            refine Ex.ck (by omega) (by omega) ?_
            generalize z19q : ((g 45 (Int32.toNatClampNeg v3)) + (g 46 (Int32.toNatClampNeg v3))) = z19
            have J101 : ∀ (t0 : Int32) (t1 : Int32) (g : Nat → Nat → Int32) (L : Nat → Nat → Int64), (0 ≤ (Int32.toInt v2) ∧ (Int32.toInt v2) ≤ 72) → (1 ≤ (Int32.toInt v3) ∧ (Int32.toInt v3) ≤ 71) → (0 ≤ (Int32.toInt t0) ∧ (Int32.toInt t0) ≤ 1) → zI MT g → mJ g → g 0 18 = g0 0 18 → g 0 2 = g0 0 2 → Ex (fX12_streams_p101 fu k13 k25 v2 v3 t0 t1 g L) (fun (r : Int32) (g1 : Nat → Nat → Int32) (L1 : Nat → Nat → Int64) => zI MT g1 ∧ mJ g1 ∧ g1 0 18 = g0 0 18 ∧ g1 0 2 = g0 0 2) := by
              intro t0 t1 g L hb_v2 hb_v3 hb_t0 hI hJ k0_0 k0_1
              unfold fX12_streams_p101
              generalize z20q : (t1 + t0) = z20
              refine Ex.lti (fun x21 x21e x21i => ?_)
              exact J103 x21 g L (by omega) (by omega) hI hJ k0_0 k0_1
            have J100 : ∀ (t0 : Int32) (g : Nat → Nat → Int32) (L : Nat → Nat → Int64), (0 ≤ (Int32.toInt v2) ∧ (Int32.toInt v2) ≤ 72) → (1 ≤ (Int32.toInt v3) ∧ (Int32.toInt v3) ≤ 71) → zI MT g → mJ g → g 0 18 = g0 0 18 → g 0 2 = g0 0 2 → Ex (fX12_streams_p100 fu k13 k25 v2 v3 t0 g L) (fun (r : Int32) (g1 : Nat → Nat → Int32) (L1 : Nat → Nat → Int64) => zI MT g1 ∧ mJ g1 ∧ g1 0 18 = g0 0 18 ∧ g1 0 2 = g0 0 2) := by
              intro t0 g L hb_v2 hb_v3 hI hJ k0_0 k0_1
              unfold fX12_streams_p100
              exact J101 0 t0 g L (by omega) (by omega) (by decide) hI hJ k0_0 k0_1
            refine Ex.ite (fun c22 => ?_) (fun c22 => ?_)
            ·
              have c22 := icc_le (m := (Int32.toInt z19)) (n := (Int32.toInt (g 45 (Int32.toNatClampNeg v2)))) rfl rfl c22
              exact J100 v1 g L (by omega) (by omega) hI hJ k0_0 k0_1
            ·
              have c22 := icc_nle (m := (Int32.toInt z19)) (n := (Int32.toInt (g 45 (Int32.toNatClampNeg v2)))) rfl rfl c22
              refine Ex.ck (by omega) (by omega) ?_
              refine Ex.ck (by omega) (by omega) ?_
              refine Ex.ck (by omega) (by omega) ?_
              generalize z23q : ((g 45 (Int32.toNatClampNeg v2)) + (g 46 (Int32.toNatClampNeg v2))) = z23
              refine Ex.ite (fun c24 => ?_) (fun c24 => ?_)
              ·
                have c24 := icc_le (m := (Int32.toInt z23)) (n := (Int32.toInt (g 45 (Int32.toNatClampNeg v3)))) rfl rfl c24
                exact J100 v1 g L (by omega) (by omega) hI hJ k0_0 k0_1
              ·
                have c24 := icc_nle (m := (Int32.toInt z23)) (n := (Int32.toInt (g 45 (Int32.toNatClampNeg v3)))) rfl rfl c24
                exact J101 1 v1 g L (by omega) (by omega) (by decide) hI hJ k0_0 k0_1
      exact lp25 v1 x11 g L (by omega) (by omega) hI hJ k0_0 k0_1
  exact lp13 0 0 g3 L4 (by decide) hI hJ k0_0 k0_1
set_option maxHeartbeats 4000000 in
set_option maxRecDepth 100000 in
theorem sX12_onStair (fu : Nat) (hfu : 1180591620717411303424 ≤ fu) (p1 : Int32) (g0 : Nat → Nat → Int32) (L0 : Nat → Nat → Int64) (hI : zI MT g0) (hJ : mJ g0) : Ex (fX12_onStair fu p1 g0 L0) (fun (r : Int32) (g1 : Nat → Nat → Int32) (L1 : Nat → Nat → Int64) => zI MT g1 ∧ mJ g1 ∧ g1 0 18 = g0 0 18 ∧ g1 0 2 = g0 0 2) := by
  have k0_0 : g0 0 18 = g0 0 18 := rfl
  have k0_1 : g0 0 2 = g0 0 2 := rfl
  unfold fX12_onStair
  have lp4 : ∀ (v1 : Int32) (v2 : Int32) (v3 : Int32) (g : Nat → Nat → Int32) (L : Nat → Nat → Int64), (0 ≤ (Int32.toInt v3) ∧ (Int32.toInt v3) ≤ 73) → zI MT g → mJ g → g 0 18 = g0 0 18 → g 0 2 = g0 0 2 → Ex (fX12_onStair_l4 fu v1 v2 v3 g L) (fun (r : Int32) (g1 : Nat → Nat → Int32) (L1 : Nat → Nat → Int64) => zI MT g1 ∧ mJ g1 ∧ g1 0 18 = g0 0 18 ∧ g1 0 2 = g0 0 2) := by
    intro v1 v2 v3 g L hb_v3 hI hJ k0_0 k0_1
    unfold fX12_onStair_l4
    refine Ex.loop (fun v => ((0 ≤ (Int32.toInt (v.2.1)) ∧ (Int32.toInt (v.2.1)) ≤ 73)) ∧ (zI MT (v.2.2.1)) ∧ (mJ (v.2.2.1)) ∧ ((v.2.2.1) 0 18 = g0 0 18) ∧ ((v.2.2.1) 0 2 = g0 0 2)) (fun v => 74 - (Int32.toInt (v.2.1))) (by omega) (by show 74 - (Int32.toInt v3) < (fu : Int); omega) ⟨hb_v3, hI, hJ, k0_0, k0_1⟩ (fun k4 v hv ih4 => ?_)
    obtain ⟨v2, v3, g, L⟩ := v
    obtain ⟨hb_v3, hI, hJ, k0_0, k0_1⟩ := hv
    have hb_v3 : (0 ≤ (Int32.toInt v3) ∧ (Int32.toInt v3) ≤ 73) := hb_v3
    have hI : zI MT g := hI
    have hJ : mJ g := hJ
    have k0_0 : g 0 18 = g0 0 18 := k0_0
    have k0_1 : g 0 2 = g0 0 2 := k0_1
    have ih4 : ∀ v' : Int32 × Int32 × (Nat → Nat → Int32) × (Nat → Nat → Int64), (((0 ≤ (Int32.toInt (v'.2.1)) ∧ (Int32.toInt (v'.2.1)) ≤ 73)) ∧ (zI MT (v'.2.2.1)) ∧ (mJ (v'.2.2.1)) ∧ ((v'.2.2.1) 0 18 = g0 0 18) ∧ ((v'.2.2.1) 0 2 = g0 0 2)) → 74 - (Int32.toInt (v'.2.1)) < 74 - (Int32.toInt v3) → 0 < 74 - (Int32.toInt v3) → Ex (k4 v') (fun (r : Int32) (g1 : Nat → Nat → Int32) (L1 : Nat → Nat → Int64) => zI MT g1 ∧ mJ g1 ∧ g1 0 18 = g0 0 18 ∧ g1 0 2 = g0 0 2) := ih4
    show Ex (fX12_onStair_s4 fu v1 k4 v2 v3 g L) (fun (r : Int32) (g1 : Nat → Nat → Int32) (L1 : Nat → Nat → Int64) => zI MT g1 ∧ mJ g1 ∧ g1 0 18 = g0 0 18 ∧ g1 0 2 = g0 0 2)
    unfold fX12_onStair_s4
    have b1 : 0 ≤ (Int32.toInt (g 0 79)) ∧ (Int32.toInt (g 0 79)) ≤ 72 := hI 0 79 0 72 rfl
    refine Ex.ite (fun c2 => ?_) (fun c2 => ?_)
    ·
      have c2 := icc_le (m := (Int32.toInt (g 0 79))) (n := (Int32.toInt v3)) rfl rfl c2
      exact Ex.ret ⟨hI, hJ, k0_0, k0_1⟩
    ·
      have c2 := icc_nle (m := (Int32.toInt (g 0 79))) (n := (Int32.toInt v3)) rfl rfl c2
      refine Ex.ck (by omega) (by omega) ?_
      have J55 : ∀ (t0 : Int32) (t1 : Int32) (g : Nat → Nat → Int32) (L : Nat → Nat → Int64), (0 ≤ (Int32.toInt v3) ∧ (Int32.toInt v3) ≤ 71) → zI MT g → mJ g → g 0 18 = g0 0 18 → g 0 2 = g0 0 2 → Ex (fX12_onStair_p55 fu k4 v1 v3 t0 t1 g L) (fun (r : Int32) (g1 : Nat → Nat → Int32) (L1 : Nat → Nat → Int64) => zI MT g1 ∧ mJ g1 ∧ g1 0 18 = g0 0 18 ∧ g1 0 2 = g0 0 2) := by
        intro t0 t1 g L hb_v3 hI hJ k0_0 k0_1
        unfold fX12_onStair_p55
        generalize z3q : (t1 + t0) = z3
        refine Ex.lti (fun x4 x4e x4i => ?_)
        generalize z5q : (v3 + 1) = z5
        have e6 : (Int32.toInt z5) = (Int32.toInt v3) + 1 := by rw [← z5q]; exact ic_addc rfl (by decide) (by omega) (by omega)
        exact ih4 (x4, z5, g, L) ⟨(show (0 ≤ (Int32.toInt z5) ∧ (Int32.toInt z5) ≤ 73) from by omega), hI, hJ, k0_0, k0_1⟩ (by show 74 - (Int32.toInt z5) < _; omega) (by omega)
      have J54 : ∀ (t0 : Int32) (g : Nat → Nat → Int32) (L : Nat → Nat → Int64), (0 ≤ (Int32.toInt v3) ∧ (Int32.toInt v3) ≤ 71) → zI MT g → mJ g → g 0 18 = g0 0 18 → g 0 2 = g0 0 2 → Ex (fX12_onStair_p54 fu k4 v1 v3 t0 g L) (fun (r : Int32) (g1 : Nat → Nat → Int32) (L1 : Nat → Nat → Int64) => zI MT g1 ∧ mJ g1 ∧ g1 0 18 = g0 0 18 ∧ g1 0 2 = g0 0 2) := by
        intro t0 g L hb_v3 hI hJ k0_0 k0_1
        unfold fX12_onStair_p54
        exact J55 0 t0 g L (by omega) hI hJ k0_0 k0_1
      refine Ex.ite (fun c7 => ?_) (fun c7 => ?_)
      ·
        have c7 := icc_lt (m := (Int32.toInt v1)) (n := (Int32.toInt (g 45 (Int32.toNatClampNeg v3)))) rfl rfl c7
        exact J54 v2 g L (by omega) hI hJ k0_0 k0_1
      ·
        have c7 := icc_nlt (m := (Int32.toInt v1)) (n := (Int32.toInt (g 45 (Int32.toNatClampNeg v3)))) rfl rfl c7
        refine Ex.ck (by omega) (by omega) ?_
        refine Ex.ck (by omega) (by omega) ?_
        generalize z8q : ((g 45 (Int32.toNatClampNeg v3)) + (g 46 (Int32.toNatClampNeg v3))) = z8
        refine Ex.ite (fun c9 => ?_) (fun c9 => ?_)
        ·
          have c9 := icc_le (m := (Int32.toInt z8)) (n := (Int32.toInt v1)) rfl rfl c9
          exact J54 v2 g L (by omega) hI hJ k0_0 k0_1
        ·
          have c9 := icc_nle (m := (Int32.toInt z8)) (n := (Int32.toInt v1)) rfl rfl c9
          refine Ex.ck (by omega) (by omega) ?_
          have b10 : 0 ≤ (Int32.toInt (g 44 (Int32.toNatClampNeg v3))) ∧ (Int32.toInt (g 44 (Int32.toNatClampNeg v3))) ≤ 11 := hI 44 _ 0 11 rfl
          refine Ex.ck (by omega) (by omega) ?_
          exact J55 (g 4 (Int32.toNatClampNeg (g 44 (Int32.toNatClampNeg v3)))) v2 g L (by omega) hI hJ k0_0 k0_1
  exact lp4 p1 0 0 g0 L0 (by decide) hI hJ k0_0 k0_1
set_option maxHeartbeats 4000000 in
set_option maxRecDepth 100000 in
theorem sX12_on (fu : Nat) (hfu : 1180591620717411303424 ≤ fu) (p1 : Int32) (p2 : Int32) (g0 : Nat → Nat → Int32) (L0 : Nat → Nat → Int64) (hI : zI MT g0) (hJ : mJ g0) : Ex (fX12_on fu p1 p2 g0 L0) (fun (r : Int32) (g1 : Nat → Nat → Int32) (L1 : Nat → Nat → Int64) => zI MT g1 ∧ mJ g1 ∧ g1 0 18 = g0 0 18 ∧ g1 0 2 = g0 0 2) := by
  have k0_0 : g0 0 18 = g0 0 18 := rfl
  have k0_1 : g0 0 2 = g0 0 2 := rfl
  unfold fX12_on
  refine Ex.sti (hI.updN rfl) (fun g1 g1e hI => ?_)
  have k0_0 : g1 0 18 = g0 0 18 := by rw [g1e]; exact k0_0
  have k0_1 : g1 0 2 = g0 0 2 := by rw [g1e]; exact k0_1
  have hJ : mJ g1 := by rw [g1e]; exact mJ.upd hJ rfl
  refine Ex.cb (sX12_isWhat fu hfu p2 1 g1 L0 hI hJ) (fun x2 g3 L4 hq6 => ?_)
  obtain ⟨hI, hJ, kk0, kk1, rb_, ip0⟩ := hq6
  have b7 : 0 ≤ (Int32.toInt x2) ∧ (Int32.toInt x2) ≤ 1 := rb_
  have ip8 : (Int32.toInt x2) = 1 → 0 ≤ (Int32.toInt p2) ∧ (Int32.toInt p2) ≤ 1 := ip0
  have hI : zI MT g3 := hI
  have hJ : mJ g3 := hJ
  have k0_0 : g3 0 18 = g0 0 18 := kk0.trans k0_0
  have k0_1 : g3 0 2 = g0 0 2 := kk1.trans k0_1
  have J30 : ∀ (g : Nat → Nat → Int32) (L : Nat → Nat → Int64), zI MT g → mJ g → g 0 18 = g0 0 18 → g 0 2 = g0 0 2 → Ex (fX12_on_p30 fu g L) (fun (r : Int32) (g1 : Nat → Nat → Int32) (L1 : Nat → Nat → Int64) => zI MT g1 ∧ mJ g1 ∧ g1 0 18 = g0 0 18 ∧ g1 0 2 = g0 0 2) := by
    intro g L hI hJ k0_0 k0_1
    unfold fX12_on_p30
    exact Ex.ret ⟨hI, hJ, k0_0, k0_1⟩
  refine Ex.ite (fun c9 => ?_) (fun c9 => ?_)
  ·
    have c9 := icc_eq (m := (Int32.toInt x2)) (n := 0) rfl (by decide) c9
    exact J30 g3 L4 hI hJ k0_0 k0_1
  ·
    have c9 := icc_neq (m := (Int32.toInt x2)) (n := 0) rfl (by decide) c9
    refine Ex.cb (sX12_within fu hfu p1 0 4000 g3 L4 hI hJ) (fun x10 g11 L12 hq14 => ?_)
    obtain ⟨hI, hJ, kk0, kk1, kk2, kk3, kk4, rb_, ip0⟩ := hq14
    have b15 : 0 ≤ (Int32.toInt x10) ∧ (Int32.toInt x10) ≤ 1 := rb_
    have ip16 : (Int32.toInt x10) = 1 → 0 ≤ (Int32.toInt p1) ∧ (Int32.toInt p1) ≤ 4000 := ip0
    have hI : zI MT g11 := hI
    have hJ : mJ g11 := hJ
    have k0_0 : g11 0 18 = g0 0 18 := kk3.trans k0_0
    have k0_1 : g11 0 2 = g0 0 2 := kk4.trans k0_1
    refine Ex.cb (sX12_right fu hfu x10 2 g11 L12 hI hJ (by omega) (by decide)) (fun x17 g18 L19 hq21 => ?_)
    obtain ⟨hI, hJ, kk0, kk1, rb_, ip0⟩ := hq21
    have b22 : 0 ≤ (Int32.toInt x17) ∧ (Int32.toInt x17) ≤ 1 := rb_
    have ip23 : (Int32.toInt x17) = 1 → 1 ≤ (Int32.toInt x10) ∧ (Int32.toInt x10) ≤ 1 := ip0
    have hI : zI MT g18 := hI
    have hJ : mJ g18 := hJ
    have k0_0 : g18 0 18 = g0 0 18 := kk0.trans k0_0
    have k0_1 : g18 0 2 = g0 0 2 := kk1.trans k0_1
    refine Ex.ite (fun c24 => ?_) (fun c24 => ?_)
    ·
      have c24 := icc_eq (m := (Int32.toInt x17)) (n := 0) rfl (by decide) c24
      exact J30 g18 L19 hI hJ k0_0 k0_1
    ·
      have c24 := icc_neq (m := (Int32.toInt x17)) (n := 0) rfl (by decide) c24
      refine Ex.cb (sX12_ways fu hfu g18 L19 hI hJ) (fun x25 g26 L27 hq29 => ?_)
      obtain ⟨hI, hJ, kk0, kk1⟩ := hq29
      have hI : zI MT g26 := hI
      have hJ : mJ g26 := hJ
      have k0_0 : g26 0 18 = g0 0 18 := kk0.trans k0_0
      have k0_1 : g26 0 2 = g0 0 2 := kk1.trans k0_1
      refine Ex.ite (fun c30 => ?_) (fun c30 => ?_)
      ·
        have c30 := icc_eq (m := (Int32.toInt p2)) (n := 1) rfl (by decide) c30
        refine Ex.cb (sX12_onStair fu hfu p1 g26 L27 hI hJ) (fun x31 g32 L33 hq35 => ?_)
        obtain ⟨hI, hJ, kk0, kk1⟩ := hq35
        have hI : zI MT g32 := hI
        have hJ : mJ g32 := hJ
        have k0_0 : g32 0 18 = g0 0 18 := kk0.trans k0_0
        have k0_1 : g32 0 2 = g0 0 2 := kk1.trans k0_1
        exact Ex.ret ⟨hI, hJ, k0_0, k0_1⟩
      ·
        have c30 := icc_neq (m := (Int32.toInt p2)) (n := 1) rfl (by decide) c30
        have lp52 : ∀ (v1 : Int32) (v3 : Int32) (v4 : Int32) (g : Nat → Nat → Int32) (L : Nat → Nat → Int64), (0 ≤ (Int32.toInt v1) ∧ (Int32.toInt v1) ≤ 4000) → (0 ≤ (Int32.toInt v4) ∧ (Int32.toInt v4) ≤ 12) → zI MT g → mJ g → g 0 18 = g0 0 18 → g 0 2 = g0 0 2 → Ex (fX12_on_l52 fu v1 v3 v4 g L) (fun (r : Int32) (g1 : Nat → Nat → Int32) (L1 : Nat → Nat → Int64) => zI MT g1 ∧ mJ g1 ∧ g1 0 18 = g0 0 18 ∧ g1 0 2 = g0 0 2) := by
          intro v1 v3 v4 g L hb_v1 hb_v4 hI hJ k0_0 k0_1
          unfold fX12_on_l52
          refine Ex.loop (fun v => ((0 ≤ (Int32.toInt v1) ∧ (Int32.toInt v1) ≤ 4000)) ∧ ((0 ≤ (Int32.toInt (v.2.1)) ∧ (Int32.toInt (v.2.1)) ≤ 12)) ∧ (zI MT (v.2.2.1)) ∧ (mJ (v.2.2.1)) ∧ ((v.2.2.1) 0 18 = g0 0 18) ∧ ((v.2.2.1) 0 2 = g0 0 2)) (fun v => 13 - (Int32.toInt (v.2.1))) (by omega) (by show 13 - (Int32.toInt v4) < (fu : Int); omega) ⟨hb_v1, hb_v4, hI, hJ, k0_0, k0_1⟩ (fun k52 v hv ih52 => ?_)
          obtain ⟨v3, v4, g, L⟩ := v
          obtain ⟨hb_v1, hb_v4, hI, hJ, k0_0, k0_1⟩ := hv
          have hb_v1 : (0 ≤ (Int32.toInt v1) ∧ (Int32.toInt v1) ≤ 4000) := hb_v1
          have hb_v4 : (0 ≤ (Int32.toInt v4) ∧ (Int32.toInt v4) ≤ 12) := hb_v4
          have hI : zI MT g := hI
          have hJ : mJ g := hJ
          have k0_0 : g 0 18 = g0 0 18 := k0_0
          have k0_1 : g 0 2 = g0 0 2 := k0_1
          have ih52 : ∀ v' : Int32 × Int32 × (Nat → Nat → Int32) × (Nat → Nat → Int64), (((0 ≤ (Int32.toInt v1) ∧ (Int32.toInt v1) ≤ 4000)) ∧ ((0 ≤ (Int32.toInt (v'.2.1)) ∧ (Int32.toInt (v'.2.1)) ≤ 12)) ∧ (zI MT (v'.2.2.1)) ∧ (mJ (v'.2.2.1)) ∧ ((v'.2.2.1) 0 18 = g0 0 18) ∧ ((v'.2.2.1) 0 2 = g0 0 2)) → 13 - (Int32.toInt (v'.2.1)) < 13 - (Int32.toInt v4) → 0 < 13 - (Int32.toInt v4) → Ex (k52 v') (fun (r : Int32) (g1 : Nat → Nat → Int32) (L1 : Nat → Nat → Int64) => zI MT g1 ∧ mJ g1 ∧ g1 0 18 = g0 0 18 ∧ g1 0 2 = g0 0 2) := ih52
          show Ex (fX12_on_s52 fu v1 k52 v3 v4 g L) (fun (r : Int32) (g1 : Nat → Nat → Int32) (L1 : Nat → Nat → Int64) => zI MT g1 ∧ mJ g1 ∧ g1 0 18 = g0 0 18 ∧ g1 0 2 = g0 0 2)
          unfold fX12_on_s52
          have b36 : 0 ≤ (Int32.toInt (g 0 1)) ∧ (Int32.toInt (g 0 1)) ≤ 12 := hI 0 1 0 12 rfl
          refine Ex.ite (fun c37 => ?_) (fun c37 => ?_)
          ·
            have c37 := icc_le (m := (Int32.toInt (g 0 1))) (n := (Int32.toInt v4)) rfl rfl c37
            exact Ex.ret ⟨hI, hJ, k0_0, k0_1⟩
          ·
            have c37 := icc_nle (m := (Int32.toInt (g 0 1))) (n := (Int32.toInt v4)) rfl rfl c37
            refine Ex.ck (by omega) (by omega) ?_
            have J92 : ∀ (t0 : Int32) (t1 : Int32) (g : Nat → Nat → Int32) (L : Nat → Nat → Int64), (0 ≤ (Int32.toInt v1) ∧ (Int32.toInt v1) ≤ 4000) → (0 ≤ (Int32.toInt v4) ∧ (Int32.toInt v4) ≤ 11) → zI MT g → mJ g → g 0 18 = g0 0 18 → g 0 2 = g0 0 2 → Ex (fX12_on_p92 fu k52 v1 v4 t0 t1 g L) (fun (r : Int32) (g1 : Nat → Nat → Int32) (L1 : Nat → Nat → Int64) => zI MT g1 ∧ mJ g1 ∧ g1 0 18 = g0 0 18 ∧ g1 0 2 = g0 0 2) := by
              intro t0 t1 g L hb_v1 hb_v4 hI hJ k0_0 k0_1
              unfold fX12_on_p92
              generalize z38q : (t1 ||| t0) = z38
              refine Ex.lti (fun x39 x39e x39i => ?_)
              generalize z40q : (v4 + 1) = z40
              have e41 : (Int32.toInt z40) = (Int32.toInt v4) + 1 := by rw [← z40q]; exact ic_addc rfl (by decide) (by omega) (by omega)
              exact ih52 (x39, z40, g, L) ⟨(show (0 ≤ (Int32.toInt v1) ∧ (Int32.toInt v1) ≤ 4000) from by omega), (show (0 ≤ (Int32.toInt z40) ∧ (Int32.toInt z40) ≤ 12) from by omega), hI, hJ, k0_0, k0_1⟩ (by show 13 - (Int32.toInt z40) < _; omega) (by omega)
            have J91 : ∀ (t0 : Int32) (g : Nat → Nat → Int32) (L : Nat → Nat → Int64), (0 ≤ (Int32.toInt v1) ∧ (Int32.toInt v1) ≤ 4000) → (0 ≤ (Int32.toInt v4) ∧ (Int32.toInt v4) ≤ 11) → zI MT g → mJ g → g 0 18 = g0 0 18 → g 0 2 = g0 0 2 → Ex (fX12_on_p91 fu k52 v1 v4 t0 g L) (fun (r : Int32) (g1 : Nat → Nat → Int32) (L1 : Nat → Nat → Int64) => zI MT g1 ∧ mJ g1 ∧ g1 0 18 = g0 0 18 ∧ g1 0 2 = g0 0 2) := by
              intro t0 g L hb_v1 hb_v4 hI hJ k0_0 k0_1
              unfold fX12_on_p91
              exact J92 0 t0 g L (by omega) (by omega) hI hJ k0_0 k0_1
            refine Ex.ite (fun c42 => ?_) (fun c42 => ?_)
            ·
              have c42 := icc_lt (m := (Int32.toInt v1)) (n := (Int32.toInt (g 31 (Int32.toNatClampNeg v4)))) rfl rfl c42
              exact J91 v3 g L (by omega) (by omega) hI hJ k0_0 k0_1
            ·
              have c42 := icc_nlt (m := (Int32.toInt v1)) (n := (Int32.toInt (g 31 (Int32.toNatClampNeg v4)))) rfl rfl c42
              refine Ex.ck (by omega) (by omega) ?_
              refine Ex.ite (fun c43 => ?_) (fun c43 => ?_)
              ·
                have c43 := icc_le (m := (Int32.toInt (g 32 (Int32.toNatClampNeg v4)))) (n := (Int32.toInt v1)) rfl rfl c43
                exact J91 v3 g L (by omega) (by omega) hI hJ k0_0 k0_1
              ·
                have c43 := icc_nle (m := (Int32.toInt (g 32 (Int32.toNatClampNeg v4)))) (n := (Int32.toInt v1)) rfl rfl c43
                generalize z44q : ((1 : Int32) <<< ((v4 : Int32) &&& 31) : Int32) = z44
                exact J92 z44 v3 g L (by omega) (by omega) hI hJ k0_0 k0_1
        exact lp52 p1 0 0 g26 L27 (by omega) (by decide) hI hJ k0_0 k0_1
set_option maxHeartbeats 4000000 in
set_option maxRecDepth 100000 in
theorem sX12_busiest (fu : Nat) (hfu : 1180591620717411303424 ≤ fu) (p1 : Int32) (g0 : Nat → Nat → Int32) (L0 : Nat → Nat → Int64) (hI : zI MT g0) (hJ : mJ g0) : Ex (fX12_busiest fu p1 g0 L0) (fun (r : Int32) (g1 : Nat → Nat → Int32) (L1 : Nat → Nat → Int64) => zI MT g1 ∧ mJ g1 ∧ g1 0 18 = g0 0 18 ∧ g1 0 2 = g0 0 2) := by
  have k0_0 : g0 0 18 = g0 0 18 := rfl
  have k0_1 : g0 0 2 = g0 0 2 := rfl
  unfold fX12_busiest
  refine Ex.sti (hI.updN rfl) (fun g1 g1e hI => ?_)
  have k0_0 : g1 0 18 = g0 0 18 := by rw [g1e]; exact k0_0
  have k0_1 : g1 0 2 = g0 0 2 := by rw [g1e]; exact k0_1
  have hJ : mJ g1 := by rw [g1e]; exact mJ.upd hJ rfl
  refine Ex.cb (sX12_isWhat fu hfu p1 1 g1 L0 hI hJ) (fun x2 g3 L4 hq6 => ?_)
  obtain ⟨hI, hJ, kk0, kk1, rb_, ip0⟩ := hq6
  have b7 : 0 ≤ (Int32.toInt x2) ∧ (Int32.toInt x2) ≤ 1 := rb_
  have ip8 : (Int32.toInt x2) = 1 → 0 ≤ (Int32.toInt p1) ∧ (Int32.toInt p1) ≤ 1 := ip0
  have hI : zI MT g3 := hI
  have hJ : mJ g3 := hJ
  have k0_0 : g3 0 18 = g0 0 18 := kk0.trans k0_0
  have k0_1 : g3 0 2 = g0 0 2 := kk1.trans k0_1
  refine Ex.ite (fun c9 => ?_) (fun c9 => ?_)
  ·
    have c9 := icc_eq (m := (Int32.toInt x2)) (n := 0) rfl (by decide) c9
    exact Ex.ret ⟨hI, hJ, k0_0, k0_1⟩
  ·
    have c9 := icc_neq (m := (Int32.toInt x2)) (n := 0) rfl (by decide) c9
    refine Ex.cb (sX12_ways fu hfu g3 L4 hI hJ) (fun x10 g11 L12 hq14 => ?_)
    obtain ⟨hI, hJ, kk0, kk1⟩ := hq14
    have hI : zI MT g11 := hI
    have hJ : mJ g11 := hJ
    have k0_0 : g11 0 18 = g0 0 18 := kk0.trans k0_0
    have k0_1 : g11 0 2 = g0 0 2 := kk1.trans k0_1
    have lp27 : ∀ (v1 : Int32) (v2 : Int32) (v3 : Int32) (v4 : Int32) (g : Nat → Nat → Int32) (L : Nat → Nat → Int64), (0 ≤ (Int32.toInt v1) ∧ (Int32.toInt v1) ≤ 1) → (0 ≤ (Int32.toInt v3)) → (0 ≤ (Int32.toInt v4) ∧ (Int32.toInt v4) ≤ 73) → zI MT g → mJ g → g 0 18 = g0 0 18 → g 0 2 = g0 0 2 → Ex (fX12_busiest_l27 fu v1 v2 v3 v4 g L) (fun (r : Int32) (g1 : Nat → Nat → Int32) (L1 : Nat → Nat → Int64) => zI MT g1 ∧ mJ g1 ∧ g1 0 18 = g0 0 18 ∧ g1 0 2 = g0 0 2) := by
      intro v1 v2 v3 v4 g L hb_v1 hb_v3 hb_v4 hI hJ k0_0 k0_1
      unfold fX12_busiest_l27
      refine Ex.loop (fun v => ((0 ≤ (Int32.toInt v1) ∧ (Int32.toInt v1) ≤ 1)) ∧ ((0 ≤ (Int32.toInt (v.2.1)))) ∧ ((0 ≤ (Int32.toInt (v.2.2.1)) ∧ (Int32.toInt (v.2.2.1)) ≤ 73)) ∧ (zI MT (v.2.2.2.1)) ∧ (mJ (v.2.2.2.1)) ∧ ((v.2.2.2.1) 0 18 = g0 0 18) ∧ ((v.2.2.2.1) 0 2 = g0 0 2)) (fun v => 74 - (Int32.toInt (v.2.2.1))) (by omega) (by show 74 - (Int32.toInt v4) < (fu : Int); omega) ⟨hb_v1, hb_v3, hb_v4, hI, hJ, k0_0, k0_1⟩ (fun k27 v hv ih27 => ?_)
      obtain ⟨v2, v3, v4, g, L⟩ := v
      obtain ⟨hb_v1, hb_v3, hb_v4, hI, hJ, k0_0, k0_1⟩ := hv
      have hb_v1 : (0 ≤ (Int32.toInt v1) ∧ (Int32.toInt v1) ≤ 1) := hb_v1
      have hb_v3 : (0 ≤ (Int32.toInt v3)) := hb_v3
      have hb_v4 : (0 ≤ (Int32.toInt v4) ∧ (Int32.toInt v4) ≤ 73) := hb_v4
      have hI : zI MT g := hI
      have hJ : mJ g := hJ
      have k0_0 : g 0 18 = g0 0 18 := k0_0
      have k0_1 : g 0 2 = g0 0 2 := k0_1
      have ih27 : ∀ v' : Int32 × Int32 × Int32 × (Nat → Nat → Int32) × (Nat → Nat → Int64), (((0 ≤ (Int32.toInt v1) ∧ (Int32.toInt v1) ≤ 1)) ∧ ((0 ≤ (Int32.toInt (v'.2.1)))) ∧ ((0 ≤ (Int32.toInt (v'.2.2.1)) ∧ (Int32.toInt (v'.2.2.1)) ≤ 73)) ∧ (zI MT (v'.2.2.2.1)) ∧ (mJ (v'.2.2.2.1)) ∧ ((v'.2.2.2.1) 0 18 = g0 0 18) ∧ ((v'.2.2.2.1) 0 2 = g0 0 2)) → 74 - (Int32.toInt (v'.2.2.1)) < 74 - (Int32.toInt v4) → 0 < 74 - (Int32.toInt v4) → Ex (k27 v') (fun (r : Int32) (g1 : Nat → Nat → Int32) (L1 : Nat → Nat → Int64) => zI MT g1 ∧ mJ g1 ∧ g1 0 18 = g0 0 18 ∧ g1 0 2 = g0 0 2) := ih27
      show Ex (fX12_busiest_s27 fu v1 k27 v2 v3 v4 g L) (fun (r : Int32) (g1 : Nat → Nat → Int32) (L1 : Nat → Nat → Int64) => zI MT g1 ∧ mJ g1 ∧ g1 0 18 = g0 0 18 ∧ g1 0 2 = g0 0 2)
      unfold fX12_busiest_s27
      have b15 : 0 ≤ (Int32.toInt (g 0 79)) ∧ (Int32.toInt (g 0 79)) ≤ 72 := hI 0 79 0 72 rfl
      refine Ex.ite (fun c16 => ?_) (fun c16 => ?_)
      ·
        have c16 := icc_le (m := (Int32.toInt (g 0 79))) (n := (Int32.toInt v4)) rfl rfl c16
        have J106 : ∀ (t0 : Int32) (g : Nat → Nat → Int32) (L : Nat → Nat → Int64), zI MT g → mJ g → g 0 18 = g0 0 18 → g 0 2 = g0 0 2 → Ex (fX12_busiest_p106 fu t0 g L) (fun (r : Int32) (g1 : Nat → Nat → Int32) (L1 : Nat → Nat → Int64) => zI MT g1 ∧ mJ g1 ∧ g1 0 18 = g0 0 18 ∧ g1 0 2 = g0 0 2) := by
          intro t0 g L hI hJ k0_0 k0_1
          unfold fX12_busiest_p106
          exact Ex.ret ⟨hI, hJ, k0_0, k0_1⟩
        refine Ex.ite (fun c17 => ?_) (fun c17 => ?_)
        ·
          have c17 := icc_eq (m := (Int32.toInt v1)) (n := 0) rfl (by decide) c17
          exact J106 v3 g L hI hJ k0_0 k0_1
        ·
          have c17 := icc_neq (m := (Int32.toInt v1)) (n := 0) rfl (by decide) c17
          exact J106 v2 g L hI hJ k0_0 k0_1
      ·
        have c16 := icc_nle (m := (Int32.toInt (g 0 79))) (n := (Int32.toInt v4)) rfl rfl c16
        refine Ex.ck (by omega) (by omega) ?_
        refine Ex.cb (sX12_onStair fu hfu (g 45 (Int32.toNatClampNeg v4)) g L hI hJ) (fun x18 g19 L20 hq22 => ?_)
        obtain ⟨hI, hJ, kk0, kk1⟩ := hq22
        have hI : zI MT g19 := hI
        have hJ : mJ g19 := hJ
        have k0_0 : g19 0 18 = g0 0 18 := kk0.trans k0_0
        have k0_1 : g19 0 2 = g0 0 2 := kk1.trans k0_1
        have J91 : ∀ (v2 : Int32) (v3 : Int32) (g : Nat → Nat → Int32) (L : Nat → Nat → Int64), (0 ≤ (Int32.toInt v1) ∧ (Int32.toInt v1) ≤ 1) → (0 ≤ (Int32.toInt v3)) → (0 ≤ (Int32.toInt v4) ∧ (Int32.toInt v4) ≤ 71) → zI MT g → mJ g → g 0 18 = g0 0 18 → g 0 2 = g0 0 2 → Ex (fX12_busiest_p91 fu k27 v1 v2 v3 v4 g L) (fun (r : Int32) (g1 : Nat → Nat → Int32) (L1 : Nat → Nat → Int64) => zI MT g1 ∧ mJ g1 ∧ g1 0 18 = g0 0 18 ∧ g1 0 2 = g0 0 2) := by
          intro v2 v3 g L hb_v1 hb_v3 hb_v4 hI hJ k0_0 k0_1
          unfold fX12_busiest_p91
          generalize z23q : (v4 + 1) = z23
          have e24 : (Int32.toInt z23) = (Int32.toInt v4) + 1 := by rw [← z23q]; exact ic_addc rfl (by decide) (by omega) (by omega)
          exact ih27 (v2, v3, z23, g, L) ⟨(show (0 ≤ (Int32.toInt v1) ∧ (Int32.toInt v1) ≤ 1) from by omega), (show (0 ≤ (Int32.toInt v3)) from by omega), (show (0 ≤ (Int32.toInt z23) ∧ (Int32.toInt z23) ≤ 73) from by omega), hI, hJ, k0_0, k0_1⟩ (by show 74 - (Int32.toInt z23) < _; omega) (by omega)
        refine Ex.ite (fun c25 => ?_) (fun c25 => ?_)
        ·
          have c25 := icc_lt (m := (Int32.toInt x18)) (n := (Int32.toInt v3)) rfl rfl c25
          exact J91 v2 v3 g19 L20 (by omega) (by omega) (by omega) hI hJ k0_0 k0_1
        ·
          have c25 := icc_nlt (m := (Int32.toInt x18)) (n := (Int32.toInt v3)) rfl rfl c25
          have J80 : ∀ (v5 : Int32) (g : Nat → Nat → Int32) (L : Nat → Nat → Int64), (0 ≤ (Int32.toInt v1) ∧ (Int32.toInt v1) ≤ 1) → (0 ≤ (Int32.toInt v4) ∧ (Int32.toInt v4) ≤ 71) → (0 ≤ (Int32.toInt v5)) → zI MT g → mJ g → g 0 18 = g0 0 18 → g 0 2 = g0 0 2 → Ex (fX12_busiest_p80 fu k27 v1 v4 v5 g L) (fun (r : Int32) (g1 : Nat → Nat → Int32) (L1 : Nat → Nat → Int64) => zI MT g1 ∧ mJ g1 ∧ g1 0 18 = g0 0 18 ∧ g1 0 2 = g0 0 2) := by
            intro v5 g L hb_v1 hb_v4 hb_v5 hI hJ k0_0 k0_1
            unfold fX12_busiest_p80
            refine Ex.ck (by omega) (by omega) ?_
            refine Ex.lti (fun x26 x26e x26i => ?_)
            exact J91 x26 v5 g L (by omega) (by omega) (by omega) hI hJ k0_0 k0_1
          refine Ex.ite (fun c27 => ?_) (fun c27 => ?_)
          ·
            have c27 := icc_eq (m := (Int32.toInt x18)) (n := (Int32.toInt v3)) rfl rfl c27
            refine Ex.ite (fun c28 => ?_) (fun c28 => ?_)
            ·
              have c28 := icc_eq (m := (Int32.toInt v2)) (n := (-1)) rfl (by decide) c28
              exact J80 x18 g19 L20 (by omega) (by omega) (by omega) hI hJ k0_0 k0_1
            ·
              have c28 := icc_neq (m := (Int32.toInt v2)) (n := (-1)) rfl (by decide) c28
              refine Ex.ck (by omega) (by omega) ?_
              refine Ex.ite (fun c29 => ?_) (fun c29 => ?_)
              ·
                have c29 := icc_lt (m := (Int32.toInt (g19 45 (Int32.toNatClampNeg v4)))) (n := (Int32.toInt v2)) rfl rfl c29
                exact J80 x18 g19 L20 (by omega) (by omega) (by omega) hI hJ k0_0 k0_1
              ·
                have c29 := icc_nlt (m := (Int32.toInt (g19 45 (Int32.toNatClampNeg v4)))) (n := (Int32.toInt v2)) rfl rfl c29
                exact J91 v2 v3 g19 L20 (by omega) (by omega) (by omega) hI hJ k0_0 k0_1
          ·
            have c27 := icc_neq (m := (Int32.toInt x18)) (n := (Int32.toInt v3)) rfl rfl c27
            exact J80 x18 g19 L20 (by omega) (by omega) (by omega) hI hJ k0_0 k0_1
    exact lp27 p1 (-1) 0 0 g11 L12 (by omega) (by decide) (by decide) hI hJ k0_0 k0_1
set_option maxHeartbeats 4000000 in
set_option maxRecDepth 100000 in
theorem sX12_clash (fu : Nat) (hfu : 1180591620717411303424 ≤ fu) (p1 : Int32) (g0 : Nat → Nat → Int32) (L0 : Nat → Nat → Int64) (hI : zI MT g0) (hJ : mJ g0) : Ex (fX12_clash fu p1 g0 L0) (fun (r : Int32) (g1 : Nat → Nat → Int32) (L1 : Nat → Nat → Int64) => zI MT g1 ∧ mJ g1 ∧ g1 0 18 = g0 0 18 ∧ g1 0 2 = g0 0 2) := by
  have k0_0 : g0 0 18 = g0 0 18 := rfl
  have k0_1 : g0 0 2 = g0 0 2 := rfl
  unfold fX12_clash
  refine Ex.sti (hI.updN rfl) (fun g1 g1e hI => ?_)
  have k0_0 : g1 0 18 = g0 0 18 := by rw [g1e]; exact k0_0
  have k0_1 : g1 0 2 = g0 0 2 := by rw [g1e]; exact k0_1
  have hJ : mJ g1 := by rw [g1e]; exact mJ.upd hJ rfl
  refine Ex.cb (sX12_isWhat fu hfu p1 1 g1 L0 hI hJ) (fun x2 g3 L4 hq6 => ?_)
  obtain ⟨hI, hJ, kk0, kk1, rb_, ip0⟩ := hq6
  have b7 : 0 ≤ (Int32.toInt x2) ∧ (Int32.toInt x2) ≤ 1 := rb_
  have ip8 : (Int32.toInt x2) = 1 → 0 ≤ (Int32.toInt p1) ∧ (Int32.toInt p1) ≤ 1 := ip0
  have hI : zI MT g3 := hI
  have hJ : mJ g3 := hJ
  have k0_0 : g3 0 18 = g0 0 18 := kk0.trans k0_0
  have k0_1 : g3 0 2 = g0 0 2 := kk1.trans k0_1
  refine Ex.ite (fun c9 => ?_) (fun c9 => ?_)
  ·
    have c9 := icc_eq (m := (Int32.toInt x2)) (n := 0) rfl (by decide) c9
    exact Ex.ret ⟨hI, hJ, k0_0, k0_1⟩
  ·
    have c9 := icc_neq (m := (Int32.toInt x2)) (n := 0) rfl (by decide) c9
    refine Ex.cb (sX12_works0 fu hfu g3 L4 hI hJ) (fun x10 g11 L12 hq14 => ?_)
    obtain ⟨hI, hJ, kk0, kk1⟩ := hq14
    have hI : zI MT g11 := hI
    have hJ : mJ g11 := hJ
    have k0_0 : g11 0 18 = g0 0 18 := kk0.trans k0_0
    have k0_1 : g11 0 2 = g0 0 2 := kk1.trans k0_1
    have lp27 : ∀ (v1 : Int32) (v2 : Int32) (v3 : Int32) (v4 : Int32) (g : Nat → Nat → Int32) (L : Nat → Nat → Int64), (0 ≤ (Int32.toInt v1) ∧ (Int32.toInt v1) ≤ 1) → (0 ≤ (Int32.toInt v4) ∧ (Int32.toInt v4) ≤ 12) → zI MT g → mJ g → g 0 18 = g0 0 18 → g 0 2 = g0 0 2 → Ex (fX12_clash_l27 fu v1 v2 v3 v4 g L) (fun (r : Int32) (g1 : Nat → Nat → Int32) (L1 : Nat → Nat → Int64) => zI MT g1 ∧ mJ g1 ∧ g1 0 18 = g0 0 18 ∧ g1 0 2 = g0 0 2) := by
      intro v1 v2 v3 v4 g L hb_v1 hb_v4 hI hJ k0_0 k0_1
      unfold fX12_clash_l27
      refine Ex.loop (fun v => ((0 ≤ (Int32.toInt v1) ∧ (Int32.toInt v1) ≤ 1)) ∧ ((0 ≤ (Int32.toInt (v.2.2.1)) ∧ (Int32.toInt (v.2.2.1)) ≤ 12)) ∧ (zI MT (v.2.2.2.1)) ∧ (mJ (v.2.2.2.1)) ∧ ((v.2.2.2.1) 0 18 = g0 0 18) ∧ ((v.2.2.2.1) 0 2 = g0 0 2)) (fun v => 13 - (Int32.toInt (v.2.2.1))) (by omega) (by show 13 - (Int32.toInt v4) < (fu : Int); omega) ⟨hb_v1, hb_v4, hI, hJ, k0_0, k0_1⟩ (fun k27 v hv ih27 => ?_)
      obtain ⟨v2, v3, v4, g, L⟩ := v
      obtain ⟨hb_v1, hb_v4, hI, hJ, k0_0, k0_1⟩ := hv
      have hb_v1 : (0 ≤ (Int32.toInt v1) ∧ (Int32.toInt v1) ≤ 1) := hb_v1
      have hb_v4 : (0 ≤ (Int32.toInt v4) ∧ (Int32.toInt v4) ≤ 12) := hb_v4
      have hI : zI MT g := hI
      have hJ : mJ g := hJ
      have k0_0 : g 0 18 = g0 0 18 := k0_0
      have k0_1 : g 0 2 = g0 0 2 := k0_1
      have ih27 : ∀ v' : Int32 × Int32 × Int32 × (Nat → Nat → Int32) × (Nat → Nat → Int64), (((0 ≤ (Int32.toInt v1) ∧ (Int32.toInt v1) ≤ 1)) ∧ ((0 ≤ (Int32.toInt (v'.2.2.1)) ∧ (Int32.toInt (v'.2.2.1)) ≤ 12)) ∧ (zI MT (v'.2.2.2.1)) ∧ (mJ (v'.2.2.2.1)) ∧ ((v'.2.2.2.1) 0 18 = g0 0 18) ∧ ((v'.2.2.2.1) 0 2 = g0 0 2)) → 13 - (Int32.toInt (v'.2.2.1)) < 13 - (Int32.toInt v4) → 0 < 13 - (Int32.toInt v4) → Ex (k27 v') (fun (r : Int32) (g1 : Nat → Nat → Int32) (L1 : Nat → Nat → Int64) => zI MT g1 ∧ mJ g1 ∧ g1 0 18 = g0 0 18 ∧ g1 0 2 = g0 0 2) := ih27
      show Ex (fX12_clash_s27 fu v1 k27 v2 v3 v4 g L) (fun (r : Int32) (g1 : Nat → Nat → Int32) (L1 : Nat → Nat → Int64) => zI MT g1 ∧ mJ g1 ∧ g1 0 18 = g0 0 18 ∧ g1 0 2 = g0 0 2)
      unfold fX12_clash_s27
      have b15 : 0 ≤ (Int32.toInt (g 0 1)) ∧ (Int32.toInt (g 0 1)) ≤ 12 := hI 0 1 0 12 rfl
      refine Ex.ite (fun c16 => ?_) (fun c16 => ?_)
      ·
        have c16 := icc_le (m := (Int32.toInt (g 0 1))) (n := (Int32.toInt v4)) rfl rfl c16
        have J175 : ∀ (t0 : Int32) (g : Nat → Nat → Int32) (L : Nat → Nat → Int64), zI MT g → mJ g → g 0 18 = g0 0 18 → g 0 2 = g0 0 2 → Ex (fX12_clash_p175 fu t0 g L) (fun (r : Int32) (g1 : Nat → Nat → Int32) (L1 : Nat → Nat → Int64) => zI MT g1 ∧ mJ g1 ∧ g1 0 18 = g0 0 18 ∧ g1 0 2 = g0 0 2) := by
          intro t0 g L hI hJ k0_0 k0_1
          unfold fX12_clash_p175
          exact Ex.ret ⟨hI, hJ, k0_0, k0_1⟩
        refine Ex.ite (fun c17 => ?_) (fun c17 => ?_)
        ·
          have c17 := icc_eq (m := (Int32.toInt v1)) (n := 0) rfl (by decide) c17
          exact J175 v2 g L hI hJ k0_0 k0_1
        ·
          have c17 := icc_neq (m := (Int32.toInt v1)) (n := 0) rfl (by decide) c17
          exact J175 v3 g L hI hJ k0_0 k0_1
      ·
        have c16 := icc_nle (m := (Int32.toInt (g 0 1))) (n := (Int32.toInt v4)) rfl rfl c16
        generalize z18q : (v4 + 1) = z18
        have e19 : (Int32.toInt z18) = (Int32.toInt v4) + 1 := by rw [← z18q]; exact ic_addc rfl (by decide) (by omega) (by omega)
        refine Ex.lti (fun x20 x20e x20i => ?_)
        have lp42 : ∀ (v2 : Int32) (v3 : Int32) (v5 : Int32) (g : Nat → Nat → Int32) (L : Nat → Nat → Int64), (0 ≤ (Int32.toInt v1) ∧ (Int32.toInt v1) ≤ 1) → (0 ≤ (Int32.toInt v4) ∧ (Int32.toInt v4) ≤ 11) → (1 ≤ (Int32.toInt v5) ∧ (Int32.toInt v5) ≤ 12) → zI MT g → mJ g → g 0 18 = g0 0 18 → g 0 2 = g0 0 2 → Ex (fX12_clash_l42 fu k27 v1 v4 v2 v3 v5 g L) (fun (r : Int32) (g1 : Nat → Nat → Int32) (L1 : Nat → Nat → Int64) => zI MT g1 ∧ mJ g1 ∧ g1 0 18 = g0 0 18 ∧ g1 0 2 = g0 0 2) := by
          intro v2 v3 v5 g L hb_v1 hb_v4 hb_v5 hI hJ k0_0 k0_1
          unfold fX12_clash_l42
          refine Ex.loop (fun v => ((0 ≤ (Int32.toInt v1) ∧ (Int32.toInt v1) ≤ 1)) ∧ ((0 ≤ (Int32.toInt v4) ∧ (Int32.toInt v4) ≤ 11)) ∧ ((1 ≤ (Int32.toInt (v.2.2.1)) ∧ (Int32.toInt (v.2.2.1)) ≤ 12)) ∧ (zI MT (v.2.2.2.1)) ∧ (mJ (v.2.2.2.1)) ∧ ((v.2.2.2.1) 0 18 = g0 0 18) ∧ ((v.2.2.2.1) 0 2 = g0 0 2)) (fun v => 13 - (Int32.toInt (v.2.2.1))) (by omega) (by show 13 - (Int32.toInt v5) < (fu : Int); omega) ⟨hb_v1, hb_v4, hb_v5, hI, hJ, k0_0, k0_1⟩ (fun k42 v hv ih42 => ?_)
          obtain ⟨v2, v3, v5, g, L⟩ := v
          obtain ⟨hb_v1, hb_v4, hb_v5, hI, hJ, k0_0, k0_1⟩ := hv
          have hb_v1 : (0 ≤ (Int32.toInt v1) ∧ (Int32.toInt v1) ≤ 1) := hb_v1
          have hb_v4 : (0 ≤ (Int32.toInt v4) ∧ (Int32.toInt v4) ≤ 11) := hb_v4
          have hb_v5 : (1 ≤ (Int32.toInt v5) ∧ (Int32.toInt v5) ≤ 12) := hb_v5
          have hI : zI MT g := hI
          have hJ : mJ g := hJ
          have k0_0 : g 0 18 = g0 0 18 := k0_0
          have k0_1 : g 0 2 = g0 0 2 := k0_1
          have ih42 : ∀ v' : Int32 × Int32 × Int32 × (Nat → Nat → Int32) × (Nat → Nat → Int64), (((0 ≤ (Int32.toInt v1) ∧ (Int32.toInt v1) ≤ 1)) ∧ ((0 ≤ (Int32.toInt v4) ∧ (Int32.toInt v4) ≤ 11)) ∧ ((1 ≤ (Int32.toInt (v'.2.2.1)) ∧ (Int32.toInt (v'.2.2.1)) ≤ 12)) ∧ (zI MT (v'.2.2.2.1)) ∧ (mJ (v'.2.2.2.1)) ∧ ((v'.2.2.2.1) 0 18 = g0 0 18) ∧ ((v'.2.2.2.1) 0 2 = g0 0 2)) → 13 - (Int32.toInt (v'.2.2.1)) < 13 - (Int32.toInt v5) → 0 < 13 - (Int32.toInt v5) → Ex (k42 v') (fun (r : Int32) (g1 : Nat → Nat → Int32) (L1 : Nat → Nat → Int64) => zI MT g1 ∧ mJ g1 ∧ g1 0 18 = g0 0 18 ∧ g1 0 2 = g0 0 2) := ih42
          show Ex (fX12_clash_s42 fu k27 v1 v4 k42 v2 v3 v5 g L) (fun (r : Int32) (g1 : Nat → Nat → Int32) (L1 : Nat → Nat → Int64) => zI MT g1 ∧ mJ g1 ∧ g1 0 18 = g0 0 18 ∧ g1 0 2 = g0 0 2)
          unfold fX12_clash_s42
          have b21 : 0 ≤ (Int32.toInt (g 0 1)) ∧ (Int32.toInt (g 0 1)) ≤ 12 := hI 0 1 0 12 rfl
          refine Ex.ite (fun c22 => ?_) (fun c22 => ?_)
          ·
            have c22 := icc_le (m := (Int32.toInt (g 0 1))) (n := (Int32.toInt v5)) rfl rfl c22
            generalize z23q : (v4 + 1) = z23
            have e24 : (Int32.toInt z23) = (Int32.toInt v4) + 1 := by rw [← z23q]; exact ic_addc rfl (by decide) (by omega) (by omega)
            exact ih27 (v2, v3, z23, g, L) ⟨(show (0 ≤ (Int32.toInt v1) ∧ (Int32.toInt v1) ≤ 1) from by omega), (show (0 ≤ (Int32.toInt z23) ∧ (Int32.toInt z23) ≤ 12) from by omega), hI, hJ, k0_0, k0_1⟩ (by show 13 - (Int32.toInt z23) < _; omega) (by omega)
          ·
            have c22 := icc_nle (m := (Int32.toInt (g 0 1))) (n := (Int32.toInt v5)) rfl rfl c22
            refine Ex.ck (by omega) (by omega) ?_
            refine Ex.ck (by omega) (by omega) ?_
            have J85 : ∀ (t0 : Int32) (g : Nat → Nat → Int32) (L : Nat → Nat → Int64), (0 ≤ (Int32.toInt v1) ∧ (Int32.toInt v1) ≤ 1) → (0 ≤ (Int32.toInt v4) ∧ (Int32.toInt v4) ≤ 11) → (1 ≤ (Int32.toInt v5) ∧ (Int32.toInt v5) ≤ 11) → zI MT g → mJ g → g 0 18 = g0 0 18 → g 0 2 = g0 0 2 → Ex (fX12_clash_p85 fu k27 k42 v1 v2 v3 v4 v5 t0 g L) (fun (r : Int32) (g1 : Nat → Nat → Int32) (L1 : Nat → Nat → Int64) => zI MT g1 ∧ mJ g1 ∧ g1 0 18 = g0 0 18 ∧ g1 0 2 = g0 0 2) := by
              intro t0 g L hb_v1 hb_v4 hb_v5 hI hJ k0_0 k0_1
              unfold fX12_clash_p85
              generalize z25q : (24 + v4) = z25
              have e26 : (Int32.toInt z25) = 24 + (Int32.toInt v4) := by rw [← z25q]; exact ic_addc (by decide) rfl (by omega) (by omega)
              refine Ex.ck (by omega) (by omega) ?_
              generalize z27q : (24 + v5) = z27
              have e28 : (Int32.toInt z27) = 24 + (Int32.toInt v5) := by rw [← z27q]; exact ic_addc (by decide) rfl (by omega) (by omega)
              refine Ex.ck (by omega) (by omega) ?_
              have J154 : ∀ (v2 : Int32) (v3 : Int32) (g : Nat → Nat → Int32) (L : Nat → Nat → Int64), (0 ≤ (Int32.toInt v1) ∧ (Int32.toInt v1) ≤ 1) → (0 ≤ (Int32.toInt v4) ∧ (Int32.toInt v4) ≤ 11) → (1 ≤ (Int32.toInt v5) ∧ (Int32.toInt v5) ≤ 11) → zI MT g → mJ g → g 0 18 = g0 0 18 → g 0 2 = g0 0 2 → Ex (fX12_clash_p154 fu k27 k42 v1 v2 v3 v4 v5 g L) (fun (r : Int32) (g1 : Nat → Nat → Int32) (L1 : Nat → Nat → Int64) => zI MT g1 ∧ mJ g1 ∧ g1 0 18 = g0 0 18 ∧ g1 0 2 = g0 0 2) := by
                intro v2 v3 g L hb_v1 hb_v4 hb_v5 hI hJ k0_0 k0_1
                unfold fX12_clash_p154
                generalize z29q : (v5 + 1) = z29
                have e30 : (Int32.toInt z29) = (Int32.toInt v5) + 1 := by rw [← z29q]; exact ic_addc rfl (by decide) (by omega) (by omega)
                exact ih42 (v2, v3, z29, g, L) ⟨(show (0 ≤ (Int32.toInt v1) ∧ (Int32.toInt v1) ≤ 1) from by omega), (show (0 ≤ (Int32.toInt v4) ∧ (Int32.toInt v4) ≤ 11) from by omega), (show (1 ≤ (Int32.toInt z29) ∧ (Int32.toInt z29) ≤ 12) from by omega), hI, hJ, k0_0, k0_1⟩ (by show 13 - (Int32.toInt z29) < _; omega) (by omega)
              refine Ex.ite (fun c31 => ?_) (fun c31 => ?_)
              ·
                have c31 := icc_eq (m := (Int32.toInt (g 12 (Int32.toNatClampNeg z25)))) (n := (Int32.toInt (g 12 (Int32.toNatClampNeg z27)))) rfl rfl c31
                refine Ex.ck (by omega) (by omega) ?_
                refine Ex.ite (fun c32 => ?_) (fun c32 => ?_)
                ·
                  have c32 := icc_le (m := (Int32.toInt (g 32 (Int32.toNatClampNeg v4)))) (n := (Int32.toInt t0)) rfl rfl c32
                  exact J154 v2 v3 g L (by omega) (by omega) (by omega) hI hJ k0_0 k0_1
                ·
                  have c32 := icc_nle (m := (Int32.toInt (g 32 (Int32.toNatClampNeg v4)))) (n := (Int32.toInt t0)) rfl rfl c32
                  refine Ex.ck (by omega) (by omega) ?_
                  refine Ex.ite (fun c33 => ?_) (fun c33 => ?_)
                  ·
                    have c33 := icc_lt (m := (Int32.toInt t0)) (n := (Int32.toInt (g 32 (Int32.toNatClampNeg v5)))) rfl rfl c33
                    generalize z34q : (v2 + 1) = z34
                    have J151 : ∀ (v2 : Int32) (v6 : Int32) (g : Nat → Nat → Int32) (L : Nat → Nat → Int64), (0 ≤ (Int32.toInt v1) ∧ (Int32.toInt v1) ≤ 1) → (0 ≤ (Int32.toInt v4) ∧ (Int32.toInt v4) ≤ 11) → (1 ≤ (Int32.toInt v5) ∧ (Int32.toInt v5) ≤ 11) → zI MT g → mJ g → g 0 18 = g0 0 18 → g 0 2 = g0 0 2 → Ex (fX12_clash_p151 fu k27 k42 v1 v2 v4 v5 v6 g L) (fun (r : Int32) (g1 : Nat → Nat → Int32) (L1 : Nat → Nat → Int64) => zI MT g1 ∧ mJ g1 ∧ g1 0 18 = g0 0 18 ∧ g1 0 2 = g0 0 2) := by
                      intro v2 v6 g L hb_v1 hb_v4 hb_v5 hI hJ k0_0 k0_1
                      unfold fX12_clash_p151
                      exact J154 v2 v6 g L (by omega) (by omega) (by omega) hI hJ k0_0 k0_1
                    refine Ex.ite (fun c35 => ?_) (fun c35 => ?_)
                    ·
                      have c35 := icc_eq (m := (Int32.toInt v3)) (n := (-1)) rfl (by decide) c35
                      exact J151 z34 t0 g L (by omega) (by omega) (by omega) hI hJ k0_0 k0_1
                    ·
                      have c35 := icc_neq (m := (Int32.toInt v3)) (n := (-1)) rfl (by decide) c35
                      refine Ex.ite (fun c36 => ?_) (fun c36 => ?_)
                      ·
                        have c36 := icc_le (m := (Int32.toInt v3)) (n := (Int32.toInt t0)) rfl rfl c36
                        exact J154 z34 v3 g L (by omega) (by omega) (by omega) hI hJ k0_0 k0_1
                      ·
                        have c36 := icc_nle (m := (Int32.toInt v3)) (n := (Int32.toInt t0)) rfl rfl c36
                        exact J151 z34 t0 g L (by omega) (by omega) (by omega) hI hJ k0_0 k0_1
                  ·
                    have c33 := icc_nlt (m := (Int32.toInt t0)) (n := (Int32.toInt (g 32 (Int32.toNatClampNeg v5)))) rfl rfl c33
                    exact J154 v2 v3 g L (by omega) (by omega) (by omega) hI hJ k0_0 k0_1
              ·
                have c31 := icc_neq (m := (Int32.toInt (g 12 (Int32.toNatClampNeg z25)))) (n := (Int32.toInt (g 12 (Int32.toNatClampNeg z27)))) rfl rfl c31
                exact J154 v2 v3 g L (by omega) (by omega) (by omega) hI hJ k0_0 k0_1
            refine Ex.ite (fun c37 => ?_) (fun c37 => ?_)
            ·
              have c37 := icc_le (m := (Int32.toInt (g 31 (Int32.toNatClampNeg v4)))) (n := (Int32.toInt (g 31 (Int32.toNatClampNeg v5)))) rfl rfl c37
              refine Ex.ck (by omega) (by omega) ?_
              exact J85 (g 31 (Int32.toNatClampNeg v5)) g L (by omega) (by omega) (by omega) hI hJ k0_0 k0_1
            ·
              have c37 := icc_nle (m := (Int32.toInt (g 31 (Int32.toNatClampNeg v4)))) (n := (Int32.toInt (g 31 (Int32.toNatClampNeg v5)))) rfl rfl c37
              refine Ex.ck (by omega) (by omega) ?_
              exact J85 (g 31 (Int32.toNatClampNeg v4)) g L (by omega) (by omega) (by omega) hI hJ k0_0 k0_1
        exact lp42 v2 v3 x20 g L (by omega) (by omega) (by omega) hI hJ k0_0 k0_1
    exact lp27 p1 0 (-1) 0 g11 L12 (by omega) (by decide) hI hJ k0_0 k0_1
set_option maxHeartbeats 4000000 in
set_option maxRecDepth 100000 in
theorem sX12_idle (fu : Nat) (hfu : 1180591620717411303424 ≤ fu) (g0 : Nat → Nat → Int32) (L0 : Nat → Nat → Int64) (hI : zI MT g0) (hJ : mJ g0) : Ex (fX12_idle fu g0 L0) (fun (r : Int32) (g1 : Nat → Nat → Int32) (L1 : Nat → Nat → Int64) => zI MT g1 ∧ mJ g1 ∧ g1 0 18 = g0 0 18 ∧ g1 0 2 = g0 0 2) := by
  have k0_0 : g0 0 18 = g0 0 18 := rfl
  have k0_1 : g0 0 2 = g0 0 2 := rfl
  unfold fX12_idle
  refine Ex.sti (hI.updN rfl) (fun g1 g1e hI => ?_)
  have k0_0 : g1 0 18 = g0 0 18 := by rw [g1e]; exact k0_0
  have k0_1 : g1 0 2 = g0 0 2 := by rw [g1e]; exact k0_1
  have hJ : mJ g1 := by rw [g1e]; exact mJ.upd hJ rfl
  refine Ex.cb (sX12_works0 fu hfu g1 L0 hI hJ) (fun x2 g3 L4 hq6 => ?_)
  obtain ⟨hI, hJ, kk0, kk1⟩ := hq6
  have hI : zI MT g3 := hI
  have hJ : mJ g3 := hJ
  have k0_0 : g3 0 18 = g0 0 18 := kk0.trans k0_0
  have k0_1 : g3 0 2 = g0 0 2 := kk1.trans k0_1
  have lp13 : ∀ (v1 : Int32) (v2 : Int32) (g : Nat → Nat → Int32) (L : Nat → Nat → Int64), (0 ≤ (Int32.toInt v2) ∧ (Int32.toInt v2) ≤ 12) → zI MT g → mJ g → g 0 18 = g0 0 18 → g 0 2 = g0 0 2 → Ex (fX12_idle_l13 fu v1 v2 g L) (fun (r : Int32) (g1 : Nat → Nat → Int32) (L1 : Nat → Nat → Int64) => zI MT g1 ∧ mJ g1 ∧ g1 0 18 = g0 0 18 ∧ g1 0 2 = g0 0 2) := by
    intro v1 v2 g L hb_v2 hI hJ k0_0 k0_1
    unfold fX12_idle_l13
    refine Ex.loop (fun v => ((0 ≤ (Int32.toInt (v.2.1)) ∧ (Int32.toInt (v.2.1)) ≤ 12)) ∧ (zI MT (v.2.2.1)) ∧ (mJ (v.2.2.1)) ∧ ((v.2.2.1) 0 18 = g0 0 18) ∧ ((v.2.2.1) 0 2 = g0 0 2)) (fun v => 13 - (Int32.toInt (v.2.1))) (by omega) (by show 13 - (Int32.toInt v2) < (fu : Int); omega) ⟨hb_v2, hI, hJ, k0_0, k0_1⟩ (fun k13 v hv ih13 => ?_)
    obtain ⟨v1, v2, g, L⟩ := v
    obtain ⟨hb_v2, hI, hJ, k0_0, k0_1⟩ := hv
    have hb_v2 : (0 ≤ (Int32.toInt v2) ∧ (Int32.toInt v2) ≤ 12) := hb_v2
    have hI : zI MT g := hI
    have hJ : mJ g := hJ
    have k0_0 : g 0 18 = g0 0 18 := k0_0
    have k0_1 : g 0 2 = g0 0 2 := k0_1
    have ih13 : ∀ v' : Int32 × Int32 × (Nat → Nat → Int32) × (Nat → Nat → Int64), (((0 ≤ (Int32.toInt (v'.2.1)) ∧ (Int32.toInt (v'.2.1)) ≤ 12)) ∧ (zI MT (v'.2.2.1)) ∧ (mJ (v'.2.2.1)) ∧ ((v'.2.2.1) 0 18 = g0 0 18) ∧ ((v'.2.2.1) 0 2 = g0 0 2)) → 13 - (Int32.toInt (v'.2.1)) < 13 - (Int32.toInt v2) → 0 < 13 - (Int32.toInt v2) → Ex (k13 v') (fun (r : Int32) (g1 : Nat → Nat → Int32) (L1 : Nat → Nat → Int64) => zI MT g1 ∧ mJ g1 ∧ g1 0 18 = g0 0 18 ∧ g1 0 2 = g0 0 2) := ih13
    show Ex (fX12_idle_s13 fu k13 v1 v2 g L) (fun (r : Int32) (g1 : Nat → Nat → Int32) (L1 : Nat → Nat → Int64) => zI MT g1 ∧ mJ g1 ∧ g1 0 18 = g0 0 18 ∧ g1 0 2 = g0 0 2)
    unfold fX12_idle_s13
    have b7 : 0 ≤ (Int32.toInt (g 0 1)) ∧ (Int32.toInt (g 0 1)) ≤ 12 := hI 0 1 0 12 rfl
    refine Ex.ite (fun c8 => ?_) (fun c8 => ?_)
    ·
      have c8 := icc_le (m := (Int32.toInt (g 0 1))) (n := (Int32.toInt v2)) rfl rfl c8
      exact Ex.ret ⟨hI, hJ, k0_0, k0_1⟩
    ·
      have c8 := icc_nle (m := (Int32.toInt (g 0 1))) (n := (Int32.toInt v2)) rfl rfl c8
      have lp23 : ∀ (v1 : Int32) (v3 : Int32) (g : Nat → Nat → Int32) (L : Nat → Nat → Int64), (0 ≤ (Int32.toInt v2) ∧ (Int32.toInt v2) ≤ 11) → (0 ≤ (Int32.toInt v3) ∧ (Int32.toInt v3) ≤ 6) → zI MT g → mJ g → g 0 18 = g0 0 18 → g 0 2 = g0 0 2 → Ex (fX12_idle_l23 fu k13 v2 v1 v3 g L) (fun (r : Int32) (g1 : Nat → Nat → Int32) (L1 : Nat → Nat → Int64) => zI MT g1 ∧ mJ g1 ∧ g1 0 18 = g0 0 18 ∧ g1 0 2 = g0 0 2) := by
        intro v1 v3 g L hb_v2 hb_v3 hI hJ k0_0 k0_1
        unfold fX12_idle_l23
        refine Ex.loop (fun v => ((0 ≤ (Int32.toInt v2) ∧ (Int32.toInt v2) ≤ 11)) ∧ ((0 ≤ (Int32.toInt (v.2.1)) ∧ (Int32.toInt (v.2.1)) ≤ 6)) ∧ (zI MT (v.2.2.1)) ∧ (mJ (v.2.2.1)) ∧ ((v.2.2.1) 0 18 = g0 0 18) ∧ ((v.2.2.1) 0 2 = g0 0 2)) (fun v => 7 - (Int32.toInt (v.2.1))) (by omega) (by show 7 - (Int32.toInt v3) < (fu : Int); omega) ⟨hb_v2, hb_v3, hI, hJ, k0_0, k0_1⟩ (fun k23 v hv ih23 => ?_)
        obtain ⟨v1, v3, g, L⟩ := v
        obtain ⟨hb_v2, hb_v3, hI, hJ, k0_0, k0_1⟩ := hv
        have hb_v2 : (0 ≤ (Int32.toInt v2) ∧ (Int32.toInt v2) ≤ 11) := hb_v2
        have hb_v3 : (0 ≤ (Int32.toInt v3) ∧ (Int32.toInt v3) ≤ 6) := hb_v3
        have hI : zI MT g := hI
        have hJ : mJ g := hJ
        have k0_0 : g 0 18 = g0 0 18 := k0_0
        have k0_1 : g 0 2 = g0 0 2 := k0_1
        have ih23 : ∀ v' : Int32 × Int32 × (Nat → Nat → Int32) × (Nat → Nat → Int64), (((0 ≤ (Int32.toInt v2) ∧ (Int32.toInt v2) ≤ 11)) ∧ ((0 ≤ (Int32.toInt (v'.2.1)) ∧ (Int32.toInt (v'.2.1)) ≤ 6)) ∧ (zI MT (v'.2.2.1)) ∧ (mJ (v'.2.2.1)) ∧ ((v'.2.2.1) 0 18 = g0 0 18) ∧ ((v'.2.2.1) 0 2 = g0 0 2)) → 7 - (Int32.toInt (v'.2.1)) < 7 - (Int32.toInt v3) → 0 < 7 - (Int32.toInt v3) → Ex (k23 v') (fun (r : Int32) (g1 : Nat → Nat → Int32) (L1 : Nat → Nat → Int64) => zI MT g1 ∧ mJ g1 ∧ g1 0 18 = g0 0 18 ∧ g1 0 2 = g0 0 2) := ih23
        show Ex (fX12_idle_s23 fu k13 v2 k23 v1 v3 g L) (fun (r : Int32) (g1 : Nat → Nat → Int32) (L1 : Nat → Nat → Int64) => zI MT g1 ∧ mJ g1 ∧ g1 0 18 = g0 0 18 ∧ g1 0 2 = g0 0 2)
        unfold fX12_idle_s23
        refine Ex.ck (by omega) (by omega) ?_
        have b9 : 0 ≤ (Int32.toInt (g 8 (Int32.toNatClampNeg v2))) ∧ (Int32.toInt (g 8 (Int32.toNatClampNeg v2))) ≤ 6 := hI 8 _ 0 6 rfl
        refine Ex.ite (fun c10 => ?_) (fun c10 => ?_)
        ·
          have c10 := icc_le (m := (Int32.toInt (g 8 (Int32.toNatClampNeg v2)))) (n := (Int32.toInt v3)) rfl rfl c10
          generalize z11q : (v2 + 1) = z11
          have e12 : (Int32.toInt z11) = (Int32.toInt v2) + 1 := by rw [← z11q]; exact ic_addc rfl (by decide) (by omega) (by omega)
          exact ih13 (v1, z11, g, L) ⟨(show (0 ≤ (Int32.toInt z11) ∧ (Int32.toInt z11) ≤ 12) from by omega), hI, hJ, k0_0, k0_1⟩ (by show 13 - (Int32.toInt z11) < _; omega) (by omega)
        ·
          have c10 := icc_nle (m := (Int32.toInt (g 8 (Int32.toNatClampNeg v2)))) (n := (Int32.toInt v3)) rfl rfl c10
          generalize z13q : (6 * v2) = z13
          have e14 : (Int32.toInt z13) = 6 * (Int32.toInt v2) := by rw [← z13q]; exact ic_mulc (by decide) rfl (by omega) (by omega)
          generalize z15q : (z13 + v3) = z15
          have e16 : (Int32.toInt z15) = (Int32.toInt z13) + (Int32.toInt v3) := by rw [← z15q]; exact ic_addc rfl rfl (by omega) (by omega)
          refine Ex.ck (by omega) (by omega) ?_
          have b17 : 0 ≤ (Int32.toInt (g 9 (Int32.toNatClampNeg z15))) ∧ (Int32.toInt (g 9 (Int32.toNatClampNeg z15))) ≤ 11 := hI 9 _ 0 11 rfl
          refine Ex.lti (fun x18 x18e x18i => ?_)
          refine Ex.ck (by omega) (by omega) ?_
          refine Ex.cb (sX12_comes fu hfu x18 v2 g L hI hJ (by omega) (by omega)) (fun x19 g20 L21 hq23 => ?_)
          obtain ⟨hI, hJ, kk0, kk1⟩ := hq23
          have hI : zI MT g20 := hI
          have hJ : mJ g20 := hJ
          have k0_0 : g20 0 18 = g0 0 18 := kk0.trans k0_0
          have k0_1 : g20 0 2 = g0 0 2 := kk1.trans k0_1
          generalize z24q : ((g 31 (Int32.toNatClampNeg v2)) - x19) = z24
          refine Ex.lti (fun x25 x25e x25i => ?_)
          have J82 : ∀ (t0 : Int32) (t1 : Int32) (g : Nat → Nat → Int32) (L : Nat → Nat → Int64), (0 ≤ (Int32.toInt v2) ∧ (Int32.toInt v2) ≤ 11) → (0 ≤ (Int32.toInt v3) ∧ (Int32.toInt v3) ≤ 5) → zI MT g → mJ g → g 0 18 = g0 0 18 → g 0 2 = g0 0 2 → Ex (fX12_idle_p82 fu k13 k23 v2 v3 t0 t1 g L) (fun (r : Int32) (g1 : Nat → Nat → Int32) (L1 : Nat → Nat → Int64) => zI MT g1 ∧ mJ g1 ∧ g1 0 18 = g0 0 18 ∧ g1 0 2 = g0 0 2) := by
            intro t0 t1 g L hb_v2 hb_v3 hI hJ k0_0 k0_1
            unfold fX12_idle_p82
            generalize z26q : (t1 + t0) = z26
            refine Ex.lti (fun x27 x27e x27i => ?_)
            generalize z28q : (v3 + 1) = z28
            have e29 : (Int32.toInt z28) = (Int32.toInt v3) + 1 := by rw [← z28q]; exact ic_addc rfl (by decide) (by omega) (by omega)
            exact ih23 (x27, z28, g, L) ⟨(show (0 ≤ (Int32.toInt v2) ∧ (Int32.toInt v2) ≤ 11) from by omega), (show (0 ≤ (Int32.toInt z28) ∧ (Int32.toInt z28) ≤ 6) from by omega), hI, hJ, k0_0, k0_1⟩ (by show 7 - (Int32.toInt z28) < _; omega) (by omega)
          refine Ex.ite (fun c30 => ?_) (fun c30 => ?_)
          ·
            have c30 := icc_le (m := (Int32.toInt x25)) (n := 0) rfl (by decide) c30
            exact J82 0 v1 g20 L21 (by omega) (by omega) hI hJ k0_0 k0_1
          ·
            have c30 := icc_nle (m := (Int32.toInt x25)) (n := 0) rfl (by decide) c30
            refine Ex.ck (by omega) (by omega) ?_
            generalize z31q : ((g20 4 (Int32.toNatClampNeg x18)) * x25) = z31
            exact J82 z31 v1 g20 L21 (by omega) (by omega) hI hJ k0_0 k0_1
      exact lp23 v1 0 g L (by omega) (by decide) hI hJ k0_0 k0_1
  exact lp13 0 0 g3 L4 (by decide) hI hJ k0_0 k0_1
set_option maxHeartbeats 4000000 in
set_option maxRecDepth 100000 in
theorem sX12_draw (fu : Nat) (hfu : 1180591620717411303424 ≤ fu) (p1 : Int32) (g0 : Nat → Nat → Int32) (L0 : Nat → Nat → Int64) (hI : zI MT g0) (hJ : mJ g0) (hp1 : (10 ≤ (Int32.toInt p1) ∧ (Int32.toInt p1) ≤ 10)) : Ex (fX12_draw fu p1 g0 L0) (fun (r : Int32) (g1 : Nat → Nat → Int32) (L1 : Nat → Nat → Int64) => zI MT g1 ∧ mJ g1 ∧ g1 0 18 = g0 0 18 ∧ g1 0 2 = g0 0 2) := by
  have k0_0 : g0 0 18 = g0 0 18 := rfl
  have k0_1 : g0 0 2 = g0 0 2 := rfl
  unfold fX12_draw
  generalize z1q : ((g0 0 80) * 1103515245) = z1
  generalize z2q : (z1 + 12345) = z2
  refine Ex.sti (hI.updN rfl) (fun g3 g3e hI => ?_)
  have k0_0 : g3 0 18 = g0 0 18 := by rw [g3e]; exact k0_0
  have k0_1 : g3 0 2 = g0 0 2 := by rw [g3e]; exact k0_1
  have hJ : mJ g3 := by rw [g3e]; exact mJ.upd hJ rfl
  generalize z4q : (((g3 0 80) : Int32) >>> ((16 : Int32) &&& 31) : Int32) = z4
  generalize z5q : (z4 &&& 32767) = z5
  have b6 : 0 ≤ (Int32.toInt z5) ∧ (Int32.toInt z5) ≤ 32767 := by rw [← z5q]; exact ic_and32767 _
  refine Ex.cnz (fun h_ => absurd (icc_eq (n := 0) rfl (by decide) h_) (by omega)) ?_
  generalize z7q : (z5 - z5 / p1 * p1) = z7
  exact Ex.ret ⟨hI, hJ, k0_0, k0_1⟩
set_option maxHeartbeats 4000000 in
set_option maxRecDepth 100000 in
theorem sX12_term (fu : Nat) (hfu : 1180591620717411303424 ≤ fu) (p1 : Int32) (p2 : Int32) (p3 : Int32) (p4 : Int32) (g0 : Nat → Nat → Int32) (L0 : Nat → Nat → Int64) (hI : zI MT g0) (hJ : mJ g0) : Ex (fX12_term fu p1 p2 p3 p4 g0 L0) (fun (r : Int32) (g1 : Nat → Nat → Int32) (L1 : Nat → Nat → Int64) => zI MT g1 ∧ mJ g1 ∧ g1 0 18 = g0 0 18 ∧ g1 0 2 = g0 0 2) := by
  have k0_0 : g0 0 18 = g0 0 18 := rfl
  have k0_1 : g0 0 2 = g0 0 2 := rfl
  unfold fX12_term
  refine Ex.sti (hI.updN rfl) (fun g1 g1e hI => ?_)
  have k0_0 : g1 0 18 = g0 0 18 := by rw [g1e]; exact k0_0
  have k0_1 : g1 0 2 = g0 0 2 := by rw [g1e]; exact k0_1
  have hJ : mJ g1 := by rw [g1e]; exact mJ.upd hJ rfl
  refine Ex.cb (sX12_isLesson fu hfu p3 g1 L0 hI hJ) (fun x2 g3 L4 hq6 => ?_)
  obtain ⟨hI, hJ, kk0, kk1, rb_, ip0⟩ := hq6
  have b7 : 0 ≤ (Int32.toInt x2) ∧ (Int32.toInt x2) ≤ 1 := rb_
  have ip8 : (Int32.toInt x2) = 1 → 0 ≤ (Int32.toInt p3) ∧ (Int32.toInt p3) ≤ 11 := ip0
  have hI : zI MT g3 := hI
  have hJ : mJ g3 := hJ
  have k0_0 : g3 0 18 = g0 0 18 := kk0.trans k0_0
  have k0_1 : g3 0 2 = g0 0 2 := kk1.trans k0_1
  have J38 : ∀ (g : Nat → Nat → Int32) (L : Nat → Nat → Int64), zI MT g → mJ g → g 0 18 = g0 0 18 → g 0 2 = g0 0 2 → Ex (fX12_term_p38 fu g L) (fun (r : Int32) (g1 : Nat → Nat → Int32) (L1 : Nat → Nat → Int64) => zI MT g1 ∧ mJ g1 ∧ g1 0 18 = g0 0 18 ∧ g1 0 2 = g0 0 2) := by
    intro g L hI hJ k0_0 k0_1
    unfold fX12_term_p38
    exact Ex.ret ⟨hI, hJ, k0_0, k0_1⟩
  refine Ex.ite (fun c9 => ?_) (fun c9 => ?_)
  ·
    have c9 := icc_eq (m := (Int32.toInt x2)) (n := 0) rfl (by decide) c9
    exact J38 g3 L4 hI hJ k0_0 k0_1
  ·
    have c9 := icc_neq (m := (Int32.toInt x2)) (n := 0) rfl (by decide) c9
    refine Ex.cb (sX12_isWhat fu hfu p4 2 g3 L4 hI hJ) (fun x10 g11 L12 hq14 => ?_)
    obtain ⟨hI, hJ, kk0, kk1, rb_, ip0⟩ := hq14
    have b15 : 0 ≤ (Int32.toInt x10) ∧ (Int32.toInt x10) ≤ 1 := rb_
    have ip16 : (Int32.toInt x10) = 1 → 0 ≤ (Int32.toInt p4) ∧ (Int32.toInt p4) ≤ 2 := ip0
    have hI : zI MT g11 := hI
    have hJ : mJ g11 := hJ
    have k0_0 : g11 0 18 = g0 0 18 := kk0.trans k0_0
    have k0_1 : g11 0 2 = g0 0 2 := kk1.trans k0_1
    refine Ex.ite (fun c17 => ?_) (fun c17 => ?_)
    ·
      have c17 := icc_eq (m := (Int32.toInt x10)) (n := 0) rfl (by decide) c17
      exact J38 g11 L12 hI hJ k0_0 k0_1
    ·
      have c17 := icc_neq (m := (Int32.toInt x10)) (n := 0) rfl (by decide) c17
      refine Ex.cb (sX12_within fu hfu p2 0 60 g11 L12 hI hJ) (fun x18 g19 L20 hq22 => ?_)
      obtain ⟨hI, hJ, kk0, kk1, kk2, kk3, kk4, rb_, ip0⟩ := hq22
      have b23 : 0 ≤ (Int32.toInt x18) ∧ (Int32.toInt x18) ≤ 1 := rb_
      have ip24 : (Int32.toInt x18) = 1 → 0 ≤ (Int32.toInt p2) ∧ (Int32.toInt p2) ≤ 60 := ip0
      have hI : zI MT g19 := hI
      have hJ : mJ g19 := hJ
      have k0_0 : g19 0 18 = g0 0 18 := kk3.trans k0_0
      have k0_1 : g19 0 2 = g0 0 2 := kk4.trans k0_1
      refine Ex.cb (sX12_right fu hfu x18 2 g19 L20 hI hJ (by omega) (by decide)) (fun x25 g26 L27 hq29 => ?_)
      obtain ⟨hI, hJ, kk0, kk1, rb_, ip0⟩ := hq29
      have b30 : 0 ≤ (Int32.toInt x25) ∧ (Int32.toInt x25) ≤ 1 := rb_
      have ip31 : (Int32.toInt x25) = 1 → 1 ≤ (Int32.toInt x18) ∧ (Int32.toInt x18) ≤ 1 := ip0
      have hI : zI MT g26 := hI
      have hJ : mJ g26 := hJ
      have k0_0 : g26 0 18 = g0 0 18 := kk0.trans k0_0
      have k0_1 : g26 0 2 = g0 0 2 := kk1.trans k0_1
      refine Ex.ite (fun c32 => ?_) (fun c32 => ?_)
      ·
        have c32 := icc_eq (m := (Int32.toInt x25)) (n := 0) rfl (by decide) c32
        exact J38 g26 L27 hI hJ k0_0 k0_1
      ·
        have c32 := icc_neq (m := (Int32.toInt x25)) (n := 0) rfl (by decide) c32
        refine Ex.sti (hI.updN rfl) (fun g33 g33e hI => ?_)
        have k0_0 : g33 0 18 = g0 0 18 := by rw [g33e]; exact k0_0
        have k0_1 : g33 0 2 = g0 0 2 := by rw [g33e]; exact k0_1
        have hJ : mJ g33 := by rw [g33e]; exact mJ.upd hJ rfl
        have lp57 : ∀ (v2 : Int32) (v3 : Int32) (v4 : Int32) (v5 : Int32) (v6 : Int32) (v7 : Int32) (v8 : Int32) (g : Nat → Nat → Int32) (L : Nat → Nat → Int64), (0 ≤ (Int32.toInt v2) ∧ (Int32.toInt v2) ≤ 60) → (0 ≤ (Int32.toInt v3) ∧ (Int32.toInt v3) ≤ 11) → (0 ≤ (Int32.toInt v4) ∧ (Int32.toInt v4) ≤ 2) → (0 ≤ (Int32.toInt v6)) → (0 ≤ (Int32.toInt v8) ∧ (Int32.toInt v8) ≤ 60) → zI MT g → mJ g → g 0 18 = g0 0 18 → g 0 2 = g0 0 2 → Ex (fX12_term_l57 fu v2 v3 v4 v5 v6 v7 v8 g L) (fun (r : Int32) (g1 : Nat → Nat → Int32) (L1 : Nat → Nat → Int64) => zI MT g1 ∧ mJ g1 ∧ g1 0 18 = g0 0 18 ∧ g1 0 2 = g0 0 2) := by
          intro v2 v3 v4 v5 v6 v7 v8 g L hb_v2 hb_v3 hb_v4 hb_v6 hb_v8 hI hJ k0_0 k0_1
          unfold fX12_term_l57
          refine Ex.loop (fun v => ((0 ≤ (Int32.toInt v2) ∧ (Int32.toInt v2) ≤ 60)) ∧ ((0 ≤ (Int32.toInt v3) ∧ (Int32.toInt v3) ≤ 11)) ∧ ((0 ≤ (Int32.toInt v4) ∧ (Int32.toInt v4) ≤ 2)) ∧ ((0 ≤ (Int32.toInt (v.2.1)))) ∧ ((0 ≤ (Int32.toInt (v.2.2.2.1)) ∧ (Int32.toInt (v.2.2.2.1)) ≤ 60)) ∧ (zI MT (v.2.2.2.2.1)) ∧ (mJ (v.2.2.2.2.1)) ∧ ((v.2.2.2.2.1) 0 18 = g0 0 18) ∧ ((v.2.2.2.2.1) 0 2 = g0 0 2)) (fun v => 61 - (Int32.toInt (v.2.2.2.1))) (by omega) (by show 61 - (Int32.toInt v8) < (fu : Int); omega) ⟨hb_v2, hb_v3, hb_v4, hb_v6, hb_v8, hI, hJ, k0_0, k0_1⟩ (fun k57 v hv ih57 => ?_)
          obtain ⟨v5, v6, v7, v8, g, L⟩ := v
          obtain ⟨hb_v2, hb_v3, hb_v4, hb_v6, hb_v8, hI, hJ, k0_0, k0_1⟩ := hv
          have hb_v2 : (0 ≤ (Int32.toInt v2) ∧ (Int32.toInt v2) ≤ 60) := hb_v2
          have hb_v3 : (0 ≤ (Int32.toInt v3) ∧ (Int32.toInt v3) ≤ 11) := hb_v3
          have hb_v4 : (0 ≤ (Int32.toInt v4) ∧ (Int32.toInt v4) ≤ 2) := hb_v4
          have hb_v6 : (0 ≤ (Int32.toInt v6)) := hb_v6
          have hb_v8 : (0 ≤ (Int32.toInt v8) ∧ (Int32.toInt v8) ≤ 60) := hb_v8
          have hI : zI MT g := hI
          have hJ : mJ g := hJ
          have k0_0 : g 0 18 = g0 0 18 := k0_0
          have k0_1 : g 0 2 = g0 0 2 := k0_1
          have ih57 : ∀ v' : Int32 × Int32 × Int32 × Int32 × (Nat → Nat → Int32) × (Nat → Nat → Int64), (((0 ≤ (Int32.toInt v2) ∧ (Int32.toInt v2) ≤ 60)) ∧ ((0 ≤ (Int32.toInt v3) ∧ (Int32.toInt v3) ≤ 11)) ∧ ((0 ≤ (Int32.toInt v4) ∧ (Int32.toInt v4) ≤ 2)) ∧ ((0 ≤ (Int32.toInt (v'.2.1)))) ∧ ((0 ≤ (Int32.toInt (v'.2.2.2.1)) ∧ (Int32.toInt (v'.2.2.2.1)) ≤ 60)) ∧ (zI MT (v'.2.2.2.2.1)) ∧ (mJ (v'.2.2.2.2.1)) ∧ ((v'.2.2.2.2.1) 0 18 = g0 0 18) ∧ ((v'.2.2.2.2.1) 0 2 = g0 0 2)) → 61 - (Int32.toInt (v'.2.2.2.1)) < 61 - (Int32.toInt v8) → 0 < 61 - (Int32.toInt v8) → Ex (k57 v') (fun (r : Int32) (g1 : Nat → Nat → Int32) (L1 : Nat → Nat → Int64) => zI MT g1 ∧ mJ g1 ∧ g1 0 18 = g0 0 18 ∧ g1 0 2 = g0 0 2) := ih57
          show Ex (fX12_term_s57 fu v2 v3 v4 k57 v5 v6 v7 v8 g L) (fun (r : Int32) (g1 : Nat → Nat → Int32) (L1 : Nat → Nat → Int64) => zI MT g1 ∧ mJ g1 ∧ g1 0 18 = g0 0 18 ∧ g1 0 2 = g0 0 2)
          unfold fX12_term_s57
          refine Ex.ite (fun c34 => ?_) (fun c34 => ?_)
          ·
            have c34 := icc_le (m := (Int32.toInt v2)) (n := (Int32.toInt v8)) rfl rfl c34
            refine Ex.sti (hI.updN rfl) (fun g35 g35e hI => ?_)
            have k0_0 : g35 0 18 = g0 0 18 := by rw [g35e]; exact k0_0
            have k0_1 : g35 0 2 = g0 0 2 := by rw [g35e]; exact k0_1
            have hJ : mJ g35 := by rw [g35e]; exact mJ.upd hJ rfl
            have J208 : ∀ (t0 : Int32) (g : Nat → Nat → Int32) (L : Nat → Nat → Int64), zI MT g → mJ g → g 0 18 = g0 0 18 → g 0 2 = g0 0 2 → Ex (fX12_term_p208 fu t0 g L) (fun (r : Int32) (g1 : Nat → Nat → Int32) (L1 : Nat → Nat → Int64) => zI MT g1 ∧ mJ g1 ∧ g1 0 18 = g0 0 18 ∧ g1 0 2 = g0 0 2) := by
              intro t0 g L hI hJ k0_0 k0_1
              unfold fX12_term_p208
              exact Ex.ret ⟨hI, hJ, k0_0, k0_1⟩
            refine Ex.ite (fun c36 => ?_) (fun c36 => ?_)
            ·
              have c36 := icc_eq (m := (Int32.toInt v4)) (n := 0) rfl (by decide) c36
              exact J208 v5 g35 L hI hJ k0_0 k0_1
            ·
              have c36 := icc_neq (m := (Int32.toInt v4)) (n := 0) rfl (by decide) c36
              refine Ex.ite (fun c37 => ?_) (fun c37 => ?_)
              ·
                have c37 := icc_eq (m := (Int32.toInt v4)) (n := 1) rfl (by decide) c37
                exact J208 v6 g35 L hI hJ k0_0 k0_1
              ·
                have c37 := icc_neq (m := (Int32.toInt v4)) (n := 1) rfl (by decide) c37
                exact J208 v7 g35 L hI hJ k0_0 k0_1
          ·
            have c34 := icc_nle (m := (Int32.toInt v2)) (n := (Int32.toInt v8)) rfl rfl c34
            refine Ex.sti (hI.updN rfl) (fun g38 g38e hI => ?_)
            have k0_0 : g38 0 18 = g0 0 18 := by rw [g38e]; exact k0_0
            have k0_1 : g38 0 2 = g0 0 2 := by rw [g38e]; exact k0_1
            have hJ : mJ g38 := by rw [g38e]; exact mJ.upd hJ rfl
            have lp71 : ∀ (v9 : Int32) (g : Nat → Nat → Int32) (L : Nat → Nat → Int64), (1 ≤ (Int32.toInt v2) ∧ (Int32.toInt v2) ≤ 60) → (0 ≤ (Int32.toInt v3) ∧ (Int32.toInt v3) ≤ 11) → (0 ≤ (Int32.toInt v4) ∧ (Int32.toInt v4) ≤ 2) → (0 ≤ (Int32.toInt v6)) → (0 ≤ (Int32.toInt v8) ∧ (Int32.toInt v8) ≤ 59) → (0 ≤ (Int32.toInt v9) ∧ (Int32.toInt v9) ≤ 12) → zI MT g → mJ g → g 0 18 = g0 0 18 → g 0 2 = g0 0 2 → Ex (fX12_term_l71 fu k57 v2 v3 v4 v5 v6 v7 v8 v9 g L) (fun (r : Int32) (g1 : Nat → Nat → Int32) (L1 : Nat → Nat → Int64) => zI MT g1 ∧ mJ g1 ∧ g1 0 18 = g0 0 18 ∧ g1 0 2 = g0 0 2) := by
              intro v9 g L hb_v2 hb_v3 hb_v4 hb_v6 hb_v8 hb_v9 hI hJ k0_0 k0_1
              unfold fX12_term_l71
              refine Ex.loop (fun v => ((1 ≤ (Int32.toInt v2) ∧ (Int32.toInt v2) ≤ 60)) ∧ ((0 ≤ (Int32.toInt v3) ∧ (Int32.toInt v3) ≤ 11)) ∧ ((0 ≤ (Int32.toInt v4) ∧ (Int32.toInt v4) ≤ 2)) ∧ ((0 ≤ (Int32.toInt v6))) ∧ ((0 ≤ (Int32.toInt v8) ∧ (Int32.toInt v8) ≤ 59)) ∧ ((0 ≤ (Int32.toInt (v.1)) ∧ (Int32.toInt (v.1)) ≤ 12)) ∧ (zI MT (v.2.1)) ∧ (mJ (v.2.1)) ∧ ((v.2.1) 0 18 = g0 0 18) ∧ ((v.2.1) 0 2 = g0 0 2)) (fun v => 13 - (Int32.toInt (v.1))) (by omega) (by show 13 - (Int32.toInt v9) < (fu : Int); omega) ⟨hb_v2, hb_v3, hb_v4, hb_v6, hb_v8, hb_v9, hI, hJ, k0_0, k0_1⟩ (fun k71 v hv ih71 => ?_)
              obtain ⟨v9, g, L⟩ := v
              obtain ⟨hb_v2, hb_v3, hb_v4, hb_v6, hb_v8, hb_v9, hI, hJ, k0_0, k0_1⟩ := hv
              have hb_v2 : (1 ≤ (Int32.toInt v2) ∧ (Int32.toInt v2) ≤ 60) := hb_v2
              have hb_v3 : (0 ≤ (Int32.toInt v3) ∧ (Int32.toInt v3) ≤ 11) := hb_v3
              have hb_v4 : (0 ≤ (Int32.toInt v4) ∧ (Int32.toInt v4) ≤ 2) := hb_v4
              have hb_v6 : (0 ≤ (Int32.toInt v6)) := hb_v6
              have hb_v8 : (0 ≤ (Int32.toInt v8) ∧ (Int32.toInt v8) ≤ 59) := hb_v8
              have hb_v9 : (0 ≤ (Int32.toInt v9) ∧ (Int32.toInt v9) ≤ 12) := hb_v9
              have hI : zI MT g := hI
              have hJ : mJ g := hJ
              have k0_0 : g 0 18 = g0 0 18 := k0_0
              have k0_1 : g 0 2 = g0 0 2 := k0_1
              have ih71 : ∀ v' : Int32 × (Nat → Nat → Int32) × (Nat → Nat → Int64), (((1 ≤ (Int32.toInt v2) ∧ (Int32.toInt v2) ≤ 60)) ∧ ((0 ≤ (Int32.toInt v3) ∧ (Int32.toInt v3) ≤ 11)) ∧ ((0 ≤ (Int32.toInt v4) ∧ (Int32.toInt v4) ≤ 2)) ∧ ((0 ≤ (Int32.toInt v6))) ∧ ((0 ≤ (Int32.toInt v8) ∧ (Int32.toInt v8) ≤ 59)) ∧ ((0 ≤ (Int32.toInt (v'.1)) ∧ (Int32.toInt (v'.1)) ≤ 12)) ∧ (zI MT (v'.2.1)) ∧ (mJ (v'.2.1)) ∧ ((v'.2.1) 0 18 = g0 0 18) ∧ ((v'.2.1) 0 2 = g0 0 2)) → 13 - (Int32.toInt (v'.1)) < 13 - (Int32.toInt v9) → 0 < 13 - (Int32.toInt v9) → Ex (k71 v') (fun (r : Int32) (g1 : Nat → Nat → Int32) (L1 : Nat → Nat → Int64) => zI MT g1 ∧ mJ g1 ∧ g1 0 18 = g0 0 18 ∧ g1 0 2 = g0 0 2) := ih71
              show Ex (fX12_term_s71 fu k57 v2 v3 v4 v5 v6 v7 v8 k71 v9 g L) (fun (r : Int32) (g1 : Nat → Nat → Int32) (L1 : Nat → Nat → Int64) => zI MT g1 ∧ mJ g1 ∧ g1 0 18 = g0 0 18 ∧ g1 0 2 = g0 0 2)
              unfold fX12_term_s71
              have b39 : 0 ≤ (Int32.toInt (g 0 1)) ∧ (Int32.toInt (g 0 1)) ≤ 12 := hI 0 1 0 12 rfl
              refine Ex.ite (fun c40 => ?_) (fun c40 => ?_)
              ·
                have c40 := icc_le (m := (Int32.toInt (g 0 1))) (n := (Int32.toInt v9)) rfl rfl c40
                refine Ex.cb (sX12_lost fu hfu g L hI hJ) (fun x41 g42 L43 hq45 => ?_)
                obtain ⟨hI, hJ, kk0, kk1⟩ := hq45
                have hI : zI MT g42 := hI
                have hJ : mJ g42 := hJ
                have k0_0 : g42 0 18 = g0 0 18 := kk0.trans k0_0
                have k0_1 : g42 0 2 = g0 0 2 := kk1.trans k0_1
                generalize z46q : (v5 + x41) = z46
                refine Ex.lti (fun x47 x47e x47i => ?_)
                have J154 : ∀ (v5 : Int32) (t0 : Int32) (g : Nat → Nat → Int32) (L : Nat → Nat → Int64), (1 ≤ (Int32.toInt v2) ∧ (Int32.toInt v2) ≤ 60) → (0 ≤ (Int32.toInt v3) ∧ (Int32.toInt v3) ≤ 11) → (0 ≤ (Int32.toInt v4) ∧ (Int32.toInt v4) ≤ 2) → (0 ≤ (Int32.toInt v8) ∧ (Int32.toInt v8) ≤ 59) → (0 ≤ (Int32.toInt t0)) → zI MT g → mJ g → g 0 18 = g0 0 18 → g 0 2 = g0 0 2 → Ex (fX12_term_p154 fu k57 v2 v3 v4 v5 v7 v8 t0 g L) (fun (r : Int32) (g1 : Nat → Nat → Int32) (L1 : Nat → Nat → Int64) => zI MT g1 ∧ mJ g1 ∧ g1 0 18 = g0 0 18 ∧ g1 0 2 = g0 0 2) := by
                  intro v5 t0 g L hb_v2 hb_v3 hb_v4 hb_v8 hb_t0 hI hJ k0_0 k0_1
                  unfold fX12_term_p154
                  refine Ex.cb (sX12_late fu hfu v3 g L hI hJ (by omega)) (fun x48 g49 L50 hq52 => ?_)
                  obtain ⟨hI, hJ, kk0, kk1⟩ := hq52
                  have hI : zI MT g49 := hI
                  have hJ : mJ g49 := hJ
                  have k0_0 : g49 0 18 = g0 0 18 := kk0.trans k0_0
                  have k0_1 : g49 0 2 = g0 0 2 := kk1.trans k0_1
                  have J171 : ∀ (v5 : Int32) (v6 : Int32) (t0 : Int32) (t1 : Int32) (g : Nat → Nat → Int32) (L : Nat → Nat → Int64), (1 ≤ (Int32.toInt v2) ∧ (Int32.toInt v2) ≤ 60) → (0 ≤ (Int32.toInt v3) ∧ (Int32.toInt v3) ≤ 11) → (0 ≤ (Int32.toInt v4) ∧ (Int32.toInt v4) ≤ 2) → (0 ≤ (Int32.toInt v6)) → (0 ≤ (Int32.toInt v8) ∧ (Int32.toInt v8) ≤ 59) → (0 ≤ (Int32.toInt t0) ∧ (Int32.toInt t0) ≤ 1) → zI MT g → mJ g → g 0 18 = g0 0 18 → g 0 2 = g0 0 2 → Ex (fX12_term_p171 fu k57 v2 v3 v4 v5 v6 v8 t0 t1 g L) (fun (r : Int32) (g1 : Nat → Nat → Int32) (L1 : Nat → Nat → Int64) => zI MT g1 ∧ mJ g1 ∧ g1 0 18 = g0 0 18 ∧ g1 0 2 = g0 0 2) := by
                    intro v5 v6 t0 t1 g L hb_v2 hb_v3 hb_v4 hb_v6 hb_v8 hb_t0 hI hJ k0_0 k0_1
                    unfold fX12_term_p171
                    generalize z53q : (t1 + t0) = z53
                    refine Ex.lti (fun x54 x54e x54i => ?_)
                    generalize z55q : (v8 + 1) = z55
                    have e56 : (Int32.toInt z55) = (Int32.toInt v8) + 1 := by rw [← z55q]; exact ic_addc rfl (by decide) (by omega) (by omega)
                    exact ih57 (v5, v6, x54, z55, g, L) ⟨(show (0 ≤ (Int32.toInt v2) ∧ (Int32.toInt v2) ≤ 60) from by omega), (show (0 ≤ (Int32.toInt v3) ∧ (Int32.toInt v3) ≤ 11) from by omega), (show (0 ≤ (Int32.toInt v4) ∧ (Int32.toInt v4) ≤ 2) from by omega), (show (0 ≤ (Int32.toInt v6)) from by omega), (show (0 ≤ (Int32.toInt z55) ∧ (Int32.toInt z55) ≤ 60) from by omega), hI, hJ, k0_0, k0_1⟩ (by show 61 - (Int32.toInt z55) < _; omega) (by omega)
                  refine Ex.ite (fun c57 => ?_) (fun c57 => ?_)
                  ·
                    have c57 := icc_le (m := (Int32.toInt x48)) (n := 0) rfl (by decide) c57
                    exact J171 v5 t0 0 v7 g49 L50 (by omega) (by omega) (by omega) (by omega) (by omega) (by decide) hI hJ k0_0 k0_1
                  ·
                    have c57 := icc_nle (m := (Int32.toInt x48)) (n := 0) rfl (by decide) c57
                    exact J171 v5 t0 1 v7 g49 L50 (by omega) (by omega) (by omega) (by omega) (by omega) (by decide) hI hJ k0_0 k0_1
                refine Ex.ite (fun c58 => ?_) (fun c58 => ?_)
                ·
                  have c58 := icc_le (m := (Int32.toInt x41)) (n := (Int32.toInt v6)) rfl rfl c58
                  exact J154 x47 v6 g42 L43 (by omega) (by omega) (by omega) (by omega) (by omega) hI hJ k0_0 k0_1
                ·
                  have c58 := icc_nle (m := (Int32.toInt x41)) (n := (Int32.toInt v6)) rfl rfl c58
                  exact J154 x47 x41 g42 L43 (by omega) (by omega) (by omega) (by omega) (by omega) hI hJ k0_0 k0_1
              ·
                have c40 := icc_nle (m := (Int32.toInt (g 0 1))) (n := (Int32.toInt v9)) rfl rfl c40
                refine Ex.ck (by omega) (by omega) ?_
                have J121 : ∀ (g : Nat → Nat → Int32) (L : Nat → Nat → Int64), (1 ≤ (Int32.toInt v2) ∧ (Int32.toInt v2) ≤ 60) → (0 ≤ (Int32.toInt v3) ∧ (Int32.toInt v3) ≤ 11) → (0 ≤ (Int32.toInt v4) ∧ (Int32.toInt v4) ≤ 2) → (0 ≤ (Int32.toInt v6)) → (0 ≤ (Int32.toInt v8) ∧ (Int32.toInt v8) ≤ 59) → (0 ≤ (Int32.toInt v9) ∧ (Int32.toInt v9) ≤ 11) → zI MT g → mJ g → g 0 18 = g0 0 18 → g 0 2 = g0 0 2 → Ex (fX12_term_p121 fu k57 k71 v2 v3 v4 v5 v6 v7 v8 v9 g L) (fun (r : Int32) (g1 : Nat → Nat → Int32) (L1 : Nat → Nat → Int64) => zI MT g1 ∧ mJ g1 ∧ g1 0 18 = g0 0 18 ∧ g1 0 2 = g0 0 2) := by
                  intro g L hb_v2 hb_v3 hb_v4 hb_v6 hb_v8 hb_v9 hI hJ k0_0 k0_1
                  unfold fX12_term_p121
                  generalize z59q : (v9 + 1) = z59
                  have e60 : (Int32.toInt z59) = (Int32.toInt v9) + 1 := by rw [← z59q]; exact ic_addc rfl (by decide) (by omega) (by omega)
                  exact ih71 (z59, g, L) ⟨(show (1 ≤ (Int32.toInt v2) ∧ (Int32.toInt v2) ≤ 60) from by omega), (show (0 ≤ (Int32.toInt v3) ∧ (Int32.toInt v3) ≤ 11) from by omega), (show (0 ≤ (Int32.toInt v4) ∧ (Int32.toInt v4) ≤ 2) from by omega), (show (0 ≤ (Int32.toInt v6)) from by omega), (show (0 ≤ (Int32.toInt v8) ∧ (Int32.toInt v8) ≤ 59) from by omega), (show (0 ≤ (Int32.toInt z59) ∧ (Int32.toInt z59) ≤ 12) from by omega), hI, hJ, k0_0, k0_1⟩ (by show 13 - (Int32.toInt z59) < _; omega) (by omega)
                refine Ex.ite (fun c61 => ?_) (fun c61 => ?_)
                ·
                  have c61 := icc_eq (m := (Int32.toInt (g 7 (Int32.toNatClampNeg v9)))) (n := 10) rfl (by decide) c61
                  exact J121 g L (by omega) (by omega) (by omega) (by omega) (by omega) (by omega) hI hJ k0_0 k0_1
                ·
                  have c61 := icc_neq (m := (Int32.toInt (g 7 (Int32.toNatClampNeg v9)))) (n := 10) rfl (by decide) c61
                  refine Ex.cb (sX12_draw fu hfu 10 g L hI hJ (by decide)) (fun x62 g63 L64 hq66 => ?_)
                  obtain ⟨hI, hJ, kk0, kk1⟩ := hq66
                  have hI : zI MT g63 := hI
                  have hJ : mJ g63 := hJ
                  have k0_0 : g63 0 18 = g0 0 18 := kk0.trans k0_0
                  have k0_1 : g63 0 2 = g0 0 2 := kk1.trans k0_1
                  refine Ex.ck (by omega) (by omega) ?_
                  refine Ex.ite (fun c67 => ?_) (fun c67 => ?_)
                  ·
                    have c67 := icc_lt (m := (Int32.toInt x62)) (n := (Int32.toInt (g63 7 (Int32.toNatClampNeg v9)))) rfl rfl c67
                    exact J121 g63 L64 (by omega) (by omega) (by omega) (by omega) (by omega) (by omega) hI hJ k0_0 k0_1
                  ·
                    have c67 := icc_nlt (m := (Int32.toInt x62)) (n := (Int32.toInt (g63 7 (Int32.toNatClampNeg v9)))) rfl rfl c67
                    generalize z68q : ((1 : Int32) <<< ((v9 : Int32) &&& 31) : Int32) = z68
                    generalize z69q : ((g63 0 60) ||| z68) = z69
                    refine Ex.sti (hI.updN rfl) (fun g70 g70e hI => ?_)
                    have k0_0 : g70 0 18 = g0 0 18 := by rw [g70e]; exact k0_0
                    have k0_1 : g70 0 2 = g0 0 2 := by rw [g70e]; exact k0_1
                    have hJ : mJ g70 := by rw [g70e]; exact mJ.upd hJ rfl
                    exact J121 g70 L64 (by omega) (by omega) (by omega) (by omega) (by omega) (by omega) hI hJ k0_0 k0_1
            exact lp71 0 g38 L (by omega) (by omega) (by omega) (by omega) (by omega) (by decide) hI hJ k0_0 k0_1
        exact lp57 p2 p3 p4 0 0 0 0 g33 L27 (by omega) (by omega) (by omega) (by decide) (by decide) hI hJ k0_0 k0_1
set_option maxHeartbeats 4000000 in
set_option maxRecDepth 100000 in
theorem sX12_lays (fu : Nat) (hfu : 1180591620717411303424 ≤ fu) (p1 : Int32) (g0 : Nat → Nat → Int32) (L0 : Nat → Nat → Int64) (hI : zI MT g0) (hJ : mJ g0) (hc0 : (Int32.toInt (g0 0 18)) ≤ 696) : Ex (fX12_lays fu p1 g0 L0) (fun (r : Unit) (g1 : Nat → Nat → Int32) (L1 : Nat → Nat → Int64) => zI MT g1 ∧ mJ g1 ∧ g1 0 2 = g0 0 2 ∧ ((g1 0 18).toInt = (g0 0 18).toInt + 4)) := by
  have k0_0 : g0 0 2 = g0 0 2 := rfl
  have w1_0 := hI 0 18 0 700 rfl
  unfold fX12_lays
  have lp3 : ∀ (v1 : Int32) (v2 : Int32) (g : Nat → Nat → Int32) (L : Nat → Nat → Int64), ((-8) ≤ (Int32.toInt v2) ∧ (Int32.toInt v2) ≤ 24) → (0 ≤ (Int32.toInt (g 0 18)) ∧ (Int32.toInt (g 0 18)) ≤ 701) → (8 * (Int32.toInt (g 0 18)) + (Int32.toInt v2) = 8 * (Int32.toInt (g0 0 18)) + 24) → zI MT g → mJ g → g 0 2 = g0 0 2 → Ex (fX12_lays_l3 fu v1 v2 g L) (fun (r : Unit) (g1 : Nat → Nat → Int32) (L1 : Nat → Nat → Int64) => zI MT g1 ∧ mJ g1 ∧ g1 0 2 = g0 0 2 ∧ ((g1 0 18).toInt = (g0 0 18).toInt + 4)) := by
    intro v1 v2 g L hb_v2 hw_0_18 hn_0 hI hJ k0_0
    unfold fX12_lays_l3
    refine Ex.loop (fun v => (((-8) ≤ (Int32.toInt (v.1)) ∧ (Int32.toInt (v.1)) ≤ 24)) ∧ ((0 ≤ (Int32.toInt ((v.2.1) 0 18)) ∧ (Int32.toInt ((v.2.1) 0 18)) ≤ 701)) ∧ ((8 * (Int32.toInt ((v.2.1) 0 18)) + (Int32.toInt (v.1)) = 8 * (Int32.toInt (g0 0 18)) + 24)) ∧ (zI MT (v.2.1)) ∧ (mJ (v.2.1)) ∧ ((v.2.1) 0 2 = g0 0 2)) (fun v => (Int32.toInt (v.1)) - (-9)) (by omega) (by show (Int32.toInt v2) - (-9) < (fu : Int); omega) ⟨hb_v2, hw_0_18, hn_0, hI, hJ, k0_0⟩ (fun k3 v hv ih3 => ?_)
    obtain ⟨v2, g, L⟩ := v
    obtain ⟨hb_v2, hw_0_18, hn_0, hI, hJ, k0_0⟩ := hv
    have hb_v2 : ((-8) ≤ (Int32.toInt v2) ∧ (Int32.toInt v2) ≤ 24) := hb_v2
    have hw_0_18 : (0 ≤ (Int32.toInt (g 0 18)) ∧ (Int32.toInt (g 0 18)) ≤ 701) := hw_0_18
    have hn_0 : (8 * (Int32.toInt (g 0 18)) + (Int32.toInt v2) = 8 * (Int32.toInt (g0 0 18)) + 24) := hn_0
    have hI : zI MT g := hI
    have hJ : mJ g := hJ
    have k0_0 : g 0 2 = g0 0 2 := k0_0
    have ih3 : ∀ v' : Int32 × (Nat → Nat → Int32) × (Nat → Nat → Int64), ((((-8) ≤ (Int32.toInt (v'.1)) ∧ (Int32.toInt (v'.1)) ≤ 24)) ∧ ((0 ≤ (Int32.toInt ((v'.2.1) 0 18)) ∧ (Int32.toInt ((v'.2.1) 0 18)) ≤ 701)) ∧ ((8 * (Int32.toInt ((v'.2.1) 0 18)) + (Int32.toInt (v'.1)) = 8 * (Int32.toInt (g0 0 18)) + 24)) ∧ (zI MT (v'.2.1)) ∧ (mJ (v'.2.1)) ∧ ((v'.2.1) 0 2 = g0 0 2)) → (Int32.toInt (v'.1)) - (-9) < (Int32.toInt v2) - (-9) → 0 < (Int32.toInt v2) - (-9) → Ex (k3 v') (fun (r : Unit) (g1 : Nat → Nat → Int32) (L1 : Nat → Nat → Int64) => zI MT g1 ∧ mJ g1 ∧ g1 0 2 = g0 0 2 ∧ ((g1 0 18).toInt = (g0 0 18).toInt + 4)) := ih3
    show Ex (fX12_lays_s3 fu v1 k3 v2 g L) (fun (r : Unit) (g1 : Nat → Nat → Int32) (L1 : Nat → Nat → Int64) => zI MT g1 ∧ mJ g1 ∧ g1 0 2 = g0 0 2 ∧ ((g1 0 18).toInt = (g0 0 18).toInt + 4))
    unfold fX12_lays_s3
    refine Ex.ite (fun c1 => ?_) (fun c1 => ?_)
    ·
      have c1 := icc_lt (m := (Int32.toInt v2)) (n := 0) rfl (by decide) c1
      exact Ex.ret ⟨hI, hJ, k0_0, (by show (g 0 18).toInt = (g0 0 18).toInt + 4; omega)⟩
    ·
      have c1 := icc_nlt (m := (Int32.toInt v2)) (n := 0) rfl (by decide) c1
      have b2 : 0 ≤ (Int32.toInt (g 0 18)) ∧ (Int32.toInt (g 0 18)) ≤ 700 := hI 0 18 0 700 rfl
      generalize z3q : ((v1 : Int32) >>> ((v2 : Int32) &&& 31) : Int32) = z3
      generalize z4q : (z3 &&& 255) = z4
      have b5 : 0 ≤ (Int32.toInt z4) ∧ (Int32.toInt z4) ≤ 255 := by rw [← z4q]; exact ic_and255 _
      refine Ex.ck (by omega) (by omega) ?_
      refine Ex.sti (hI.upd rfl (by omega) (by omega)) (fun g6 g6e hI => ?_)
      have w7 : (Int32.toInt (g6 0 18)) = (Int32.toInt (g 0 18)) := by rw [g6e]; rfl
      have k0_0 : g6 0 2 = g0 0 2 := by rw [g6e]; exact k0_0
      have hJ : mJ g6 := by rw [g6e]; exact mJ.upd hJ rfl
      have b8 : 0 ≤ (Int32.toInt (g6 0 18)) ∧ (Int32.toInt (g6 0 18)) ≤ 700 := hI 0 18 0 700 rfl
      generalize z9q : ((g6 0 18) + 1) = z9
      have e10 : (Int32.toInt z9) = (Int32.toInt (g6 0 18)) + 1 := by rw [← z9q]; exact ic_addc rfl (by decide) (by omega) (by omega)
      refine Ex.sti (hI.upd rfl (by omega) (by omega)) (fun g11 g11e hI => ?_)
      have k0_0 : g11 0 2 = g0 0 2 := by rw [g11e]; exact k0_0
      have hJ : mJ g11 := by rw [g11e]; exact mJ.upd hJ rfl
      have w12 : (Int32.toInt (g11 0 18)) = (Int32.toInt z9) := by rw [g11e, upd2_at]
      generalize z13q : (v2 + (-8)) = z13
      have e14 : (Int32.toInt z13) = (Int32.toInt v2) + (-8) := by rw [← z13q]; exact ic_addc rfl (by decide) (by omega) (by omega)
      exact ih3 (z13, g11, L) ⟨(show ((-8) ≤ (Int32.toInt z13) ∧ (Int32.toInt z13) ≤ 24) from by omega), (show (0 ≤ (Int32.toInt (g11 0 18)) ∧ (Int32.toInt (g11 0 18)) ≤ 701) from by omega), (show (8 * (Int32.toInt (g11 0 18)) + (Int32.toInt z13) = 8 * (Int32.toInt (g0 0 18)) + 24) from by omega), hI, hJ, k0_0⟩ (by show (Int32.toInt z13) - (-9) < _; omega) (by omega)
  have hc_ : (24 : Int32).toInt = 24 := by decide
  exact lp3 p1 24 g0 L0 (by decide) (by omega) (by omega) hI hJ k0_0
set_option maxHeartbeats 4000000 in
set_option maxRecDepth 100000 in
theorem sX12_feed (fu : Nat) (hfu : 1180591620717411303424 ≤ fu) (p1 : Int32) (p2 : Int32) (p3 : Int32) (p4 : Int32) (p5 : Int32) (g0 : Nat → Nat → Int32) (L0 : Nat → Nat → Int64) (hI : zI MT g0) (hJ : mJ g0) : Ex (fX12_feed fu p1 p2 p3 p4 p5 g0 L0) (fun (r : Int32) (g1 : Nat → Nat → Int32) (L1 : Nat → Nat → Int64) => zI MT g1 ∧ mJ g1 ∧ g1 0 2 = g0 0 2 ∧ (((g0 0 18).toInt ≤ 680 → (Int32.toInt r) = (g0 0 18).toInt + 20 ∧ (g1 0 18).toInt = (g0 0 18).toInt + 20) ∧ (680 < (g0 0 18).toInt → (Int32.toInt r) = -1 ∧ (g1 0 18).toInt = (g0 0 18).toInt)) ∧ ((-1) ≤ (Int32.toInt r) ∧ (Int32.toInt r) ≤ 700)) := by
  have k0_0 : g0 0 2 = g0 0 2 := rfl
  have w1_0 := hI 0 18 0 700 rfl
  unfold fX12_feed
  refine Ex.sti (hI.updN rfl) (fun g1 g1e hI => ?_)
  have w2 : (Int32.toInt (g1 0 18)) = (Int32.toInt (g0 0 18)) := by rw [g1e]; rfl
  have k0_0 : g1 0 2 = g0 0 2 := by rw [g1e]; exact k0_0
  have hJ : mJ g1 := by rw [g1e]; exact mJ.upd hJ rfl
  have b3 : 0 ≤ (Int32.toInt (g1 0 18)) ∧ (Int32.toInt (g1 0 18)) ≤ 700 := hI 0 18 0 700 rfl
  generalize z4q : ((g1 0 18) + 20) = z4
  have e5 : (Int32.toInt z4) = (Int32.toInt (g1 0 18)) + 20 := by rw [← z4q]; exact ic_addc rfl (by decide) (by omega) (by omega)
  refine Ex.ite (fun c6 => ?_) (fun c6 => ?_)
  ·
    have c6 := icc_le (m := (Int32.toInt z4)) (n := 700) rfl (by decide) c6
    refine Ex.cb (sX12_lays fu hfu p1 g1 L0 hI hJ (by omega)) (fun x7 g8 L9 hq11 => ?_)
    obtain ⟨hI, hJ, kk0, cp0⟩ := hq11
    have hI : zI MT g8 := hI
    have hJ : mJ g8 := hJ
    have cp0 : (g8 0 18).toInt = (g1 0 18).toInt + 4 := cp0
    have k0_0 : g8 0 2 = g0 0 2 := kk0.trans k0_0
    refine Ex.cb (sX12_lays fu hfu p2 g8 L9 hI hJ (by omega)) (fun x12 g13 L14 hq16 => ?_)
    obtain ⟨hI, hJ, kk0, cp0⟩ := hq16
    have hI : zI MT g13 := hI
    have hJ : mJ g13 := hJ
    have cp0 : (g13 0 18).toInt = (g8 0 18).toInt + 4 := cp0
    have k0_0 : g13 0 2 = g0 0 2 := kk0.trans k0_0
    refine Ex.cb (sX12_lays fu hfu p3 g13 L14 hI hJ (by omega)) (fun x17 g18 L19 hq21 => ?_)
    obtain ⟨hI, hJ, kk0, cp0⟩ := hq21
    have hI : zI MT g18 := hI
    have hJ : mJ g18 := hJ
    have cp0 : (g18 0 18).toInt = (g13 0 18).toInt + 4 := cp0
    have k0_0 : g18 0 2 = g0 0 2 := kk0.trans k0_0
    refine Ex.cb (sX12_lays fu hfu p4 g18 L19 hI hJ (by omega)) (fun x22 g23 L24 hq26 => ?_)
    obtain ⟨hI, hJ, kk0, cp0⟩ := hq26
    have hI : zI MT g23 := hI
    have hJ : mJ g23 := hJ
    have cp0 : (g23 0 18).toInt = (g18 0 18).toInt + 4 := cp0
    have k0_0 : g23 0 2 = g0 0 2 := kk0.trans k0_0
    refine Ex.cb (sX12_lays fu hfu p5 g23 L24 hI hJ (by omega)) (fun x27 g28 L29 hq31 => ?_)
    obtain ⟨hI, hJ, kk0, cp0⟩ := hq31
    have hI : zI MT g28 := hI
    have hJ : mJ g28 := hJ
    have cp0 : (g28 0 18).toInt = (g23 0 18).toInt + 4 := cp0
    have k0_0 : g28 0 2 = g0 0 2 := kk0.trans k0_0
    have b32 : 0 ≤ (Int32.toInt (g28 0 18)) ∧ (Int32.toInt (g28 0 18)) ≤ 700 := hI 0 18 0 700 rfl
    exact Ex.ret ⟨hI, hJ, k0_0, (by show ((g0 0 18).toInt ≤ 680 → (Int32.toInt (g28 0 18)) = (g0 0 18).toInt + 20 ∧ (g28 0 18).toInt = (g0 0 18).toInt + 20) ∧ (680 < (g0 0 18).toInt → (Int32.toInt (g28 0 18)) = -1 ∧ (g28 0 18).toInt = (g0 0 18).toInt); omega), (by omega)⟩
  ·
    have c6 := icc_nle (m := (Int32.toInt z4)) (n := 700) rfl (by decide) c6
    exact Ex.ret ⟨hI, hJ, k0_0, (by show ((g0 0 18).toInt ≤ 680 → (-1) = (g0 0 18).toInt + 20 ∧ (g1 0 18).toInt = (g0 0 18).toInt + 20) ∧ (680 < (g0 0 18).toInt → (-1) = -1 ∧ (g1 0 18).toInt = (g0 0 18).toInt); omega), (by decide)⟩
set_option maxHeartbeats 4000000 in
set_option maxRecDepth 100000 in
theorem sX12_fault (fu : Nat) (hfu : 1180591620717411303424 ≤ fu) (g0 : Nat → Nat → Int32) (L0 : Nat → Nat → Int64) (hI : zI MT g0) (hJ : mJ g0) : Ex (fX12_fault fu g0 L0) (fun (r : Int32) (g1 : Nat → Nat → Int32) (L1 : Nat → Nat → Int64) => zI MT g1 ∧ mJ g1 ∧ g1 0 18 = g0 0 18 ∧ g1 0 2 = g0 0 2) := by
  have k0_0 : g0 0 18 = g0 0 18 := rfl
  have k0_1 : g0 0 2 = g0 0 2 := rfl
  unfold fX12_fault
  refine Ex.sti (hI.updN rfl) (fun g1 g1e hI => ?_)
  have k0_0 : g1 0 18 = g0 0 18 := by rw [g1e]; exact k0_0
  have k0_1 : g1 0 2 = g0 0 2 := by rw [g1e]; exact k0_1
  have hJ : mJ g1 := by rw [g1e]; exact mJ.upd hJ rfl
  exact Ex.ret ⟨hI, hJ, k0_0, k0_1⟩
set_option maxHeartbeats 4000000 in
set_option maxRecDepth 100000 in
theorem sX12_forget (fu : Nat) (hfu : 1180591620717411303424 ≤ fu) (g0 : Nat → Nat → Int32) (L0 : Nat → Nat → Int64) (hI : zI MT g0) (hJ : mJ g0) : Ex (fX12_forget fu g0 L0) (fun (r : Unit) (g1 : Nat → Nat → Int32) (L1 : Nat → Nat → Int64) => zI MT g1 ∧ mJ g1 ∧ g1 0 18 = g0 0 18 ∧ g1 0 2 = g0 0 2) := by
  have k0_0 : g0 0 18 = g0 0 18 := rfl
  have k0_1 : g0 0 2 = g0 0 2 := rfl
  unfold fX12_forget
  refine Ex.sti (hI.updN rfl) (fun g1 g1e hI => ?_)
  have k0_0 : g1 0 18 = g0 0 18 := by rw [g1e]; exact k0_0
  have k0_1 : g1 0 2 = g0 0 2 := by rw [g1e]; exact k0_1
  have hJ : mJ g1 := by rw [g1e]; exact mJ.upd hJ rfl
  refine Ex.sti (hI.upd rfl (by decide) (by decide)) (fun g2 g2e hI => ?_)
  have k0_0 : g2 0 18 = g0 0 18 := by rw [g2e]; exact k0_0
  have k0_1 : g2 0 2 = g0 0 2 := by rw [g2e]; exact k0_1
  have hJ : mJ g2 := by rw [g2e]; exact mJ.unsee hJ (by decide)
  exact Ex.ret ⟨hI, hJ, k0_0, k0_1⟩
set_option maxHeartbeats 4000000 in
set_option maxRecDepth 100000 in
theorem sX12_refuses (fu : Nat) (hfu : 1180591620717411303424 ≤ fu) (p1 : Int32) (g0 : Nat → Nat → Int32) (L0 : Nat → Nat → Int64) (hI : zI MT g0) (hJ : mJ g0) (hp1 : (0 ≤ (Int32.toInt p1) ∧ (Int32.toInt p1) ≤ 2)) : Ex (fX12_refuses fu p1 g0 L0) (fun (r : Int32) (g1 : Nat → Nat → Int32) (L1 : Nat → Nat → Int64) => zI MT g1 ∧ mJ g1 ∧ g1 0 18 = g0 0 18 ∧ g1 0 2 = g0 0 2 ∧ ((-1) ≤ (Int32.toInt r) ∧ (Int32.toInt r) ≤ (-1))) := by
  have k0_0 : g0 0 18 = g0 0 18 := rfl
  have k0_1 : g0 0 2 = g0 0 2 := rfl
  unfold fX12_refuses
  refine Ex.ck (by omega) (by omega) ?_
  generalize z1q : ((g0 14 (Int32.toNatClampNeg p1)) + 1) = z1
  refine Ex.ck (by omega) (by omega) ?_
  refine Ex.sti (hI.updN rfl) (fun g2 g2e hI => ?_)
  have k0_0 : g2 0 18 = g0 0 18 := by rw [g2e]; exact k0_0
  have k0_1 : g2 0 2 = g0 0 2 := by rw [g2e]; exact k0_1
  have hJ : mJ g2 := by rw [g2e]; exact mJ.upd hJ rfl
  exact Ex.ret ⟨hI, hJ, k0_0, k0_1, (by decide)⟩
set_option maxHeartbeats 4000000 in
set_option maxRecDepth 100000 in
theorem sX12_bits (fu : Nat) (hfu : 1180591620717411303424 ≤ fu) (p1 : Int32) (g0 : Nat → Nat → Int32) (L0 : Nat → Nat → Int64) (hI : zI MT g0) (hJ : mJ g0) : Ex (fX12_bits fu p1 g0 L0) (fun (r : Int32) (g1 : Nat → Nat → Int32) (L1 : Nat → Nat → Int64) => zI MT g1 ∧ mJ g1 ∧ g1 0 18 = g0 0 18 ∧ g1 0 2 = g0 0 2) := by
  have k0_0 : g0 0 18 = g0 0 18 := rfl
  have k0_1 : g0 0 2 = g0 0 2 := rfl
  unfold fX12_bits
  have lp4 : ∀ (v0 : Int32) (v1 : Int32) (v2 : Int32) (g : Nat → Nat → Int32) (L : Nat → Nat → Int64), (0 ≤ (Int32.toInt v2) ∧ (Int32.toInt v2) ≤ 12) → zI MT g → mJ g → g 0 18 = g0 0 18 → g 0 2 = g0 0 2 → Ex (fX12_bits_l4 fu v0 v1 v2 g L) (fun (r : Int32) (g1 : Nat → Nat → Int32) (L1 : Nat → Nat → Int64) => zI MT g1 ∧ mJ g1 ∧ g1 0 18 = g0 0 18 ∧ g1 0 2 = g0 0 2) := by
    intro v0 v1 v2 g L hb_v2 hI hJ k0_0 k0_1
    unfold fX12_bits_l4
    refine Ex.loop (fun v => ((0 ≤ (Int32.toInt (v.2.1)) ∧ (Int32.toInt (v.2.1)) ≤ 12)) ∧ (zI MT (v.2.2.1)) ∧ (mJ (v.2.2.1)) ∧ ((v.2.2.1) 0 18 = g0 0 18) ∧ ((v.2.2.1) 0 2 = g0 0 2)) (fun v => 13 - (Int32.toInt (v.2.1))) (by omega) (by show 13 - (Int32.toInt v2) < (fu : Int); omega) ⟨hb_v2, hI, hJ, k0_0, k0_1⟩ (fun k4 v hv ih4 => ?_)
    obtain ⟨v1, v2, g, L⟩ := v
    obtain ⟨hb_v2, hI, hJ, k0_0, k0_1⟩ := hv
    have hb_v2 : (0 ≤ (Int32.toInt v2) ∧ (Int32.toInt v2) ≤ 12) := hb_v2
    have hI : zI MT g := hI
    have hJ : mJ g := hJ
    have k0_0 : g 0 18 = g0 0 18 := k0_0
    have k0_1 : g 0 2 = g0 0 2 := k0_1
    have ih4 : ∀ v' : Int32 × Int32 × (Nat → Nat → Int32) × (Nat → Nat → Int64), (((0 ≤ (Int32.toInt (v'.2.1)) ∧ (Int32.toInt (v'.2.1)) ≤ 12)) ∧ (zI MT (v'.2.2.1)) ∧ (mJ (v'.2.2.1)) ∧ ((v'.2.2.1) 0 18 = g0 0 18) ∧ ((v'.2.2.1) 0 2 = g0 0 2)) → 13 - (Int32.toInt (v'.2.1)) < 13 - (Int32.toInt v2) → 0 < 13 - (Int32.toInt v2) → Ex (k4 v') (fun (r : Int32) (g1 : Nat → Nat → Int32) (L1 : Nat → Nat → Int64) => zI MT g1 ∧ mJ g1 ∧ g1 0 18 = g0 0 18 ∧ g1 0 2 = g0 0 2) := ih4
    show Ex (fX12_bits_s4 fu v0 k4 v1 v2 g L) (fun (r : Int32) (g1 : Nat → Nat → Int32) (L1 : Nat → Nat → Int64) => zI MT g1 ∧ mJ g1 ∧ g1 0 18 = g0 0 18 ∧ g1 0 2 = g0 0 2)
    unfold fX12_bits_s4
    refine Ex.ite (fun c1 => ?_) (fun c1 => ?_)
    ·
      have c1 := icc_le (m := 12) (n := (Int32.toInt v2)) (by decide) rfl c1
      exact Ex.ret ⟨hI, hJ, k0_0, k0_1⟩
    ·
      have c1 := icc_nle (m := 12) (n := (Int32.toInt v2)) (by decide) rfl c1
      generalize z2q : ((v0 : Int32) >>> ((v2 : Int32) &&& 31) : Int32) = z2
      generalize z3q : (z2 &&& 1) = z3
      have b4 : 0 ≤ (Int32.toInt z3) ∧ (Int32.toInt z3) ≤ 1 := by rw [← z3q]; exact ic_and1 _
      generalize z5q : (v1 + z3) = z5
      refine Ex.lti (fun x6 x6e x6i => ?_)
      generalize z7q : (v2 + 1) = z7
      have e8 : (Int32.toInt z7) = (Int32.toInt v2) + 1 := by rw [← z7q]; exact ic_addc rfl (by decide) (by omega) (by omega)
      exact ih4 (x6, z7, g, L) ⟨(show (0 ≤ (Int32.toInt z7) ∧ (Int32.toInt z7) ≤ 12) from by omega), hI, hJ, k0_0, k0_1⟩ (by show 13 - (Int32.toInt z7) < _; omega) (by omega)
  exact lp4 p1 0 0 g0 L0 (by decide) hI hJ k0_0 k0_1
set_option maxHeartbeats 4000000 in
set_option maxRecDepth 100000 in
theorem sX12_gap (fu : Nat) (hfu : 1180591620717411303424 ≤ fu) (p1 : Int32) (g0 : Nat → Nat → Int32) (L0 : Nat → Nat → Int64) (hI : zI MT g0) (hJ : mJ g0) : Ex (fX12_gap fu p1 g0 L0) (fun (r : Int32) (g1 : Nat → Nat → Int32) (L1 : Nat → Nat → Int64) => zI MT g1 ∧ mJ g1 ∧ g1 0 18 = g0 0 18 ∧ g1 0 2 = g0 0 2) := by
  have k0_0 : g0 0 18 = g0 0 18 := rfl
  have k0_1 : g0 0 2 = g0 0 2 := rfl
  unfold fX12_gap
  refine Ex.sti (hI.updN rfl) (fun g1 g1e hI => ?_)
  have k0_0 : g1 0 18 = g0 0 18 := by rw [g1e]; exact k0_0
  have k0_1 : g1 0 2 = g0 0 2 := by rw [g1e]; exact k0_1
  have hJ : mJ g1 := by rw [g1e]; exact mJ.upd hJ rfl
  refine Ex.cb (sX12_isLesson fu hfu p1 g1 L0 hI hJ) (fun x2 g3 L4 hq6 => ?_)
  obtain ⟨hI, hJ, kk0, kk1, rb_, ip0⟩ := hq6
  have b7 : 0 ≤ (Int32.toInt x2) ∧ (Int32.toInt x2) ≤ 1 := rb_
  have ip8 : (Int32.toInt x2) = 1 → 0 ≤ (Int32.toInt p1) ∧ (Int32.toInt p1) ≤ 11 := ip0
  have hI : zI MT g3 := hI
  have hJ : mJ g3 := hJ
  have k0_0 : g3 0 18 = g0 0 18 := kk0.trans k0_0
  have k0_1 : g3 0 2 = g0 0 2 := kk1.trans k0_1
  have J35 : ∀ (t0 : Int32) (g : Nat → Nat → Int32) (L : Nat → Nat → Int64), zI MT g → mJ g → g 0 18 = g0 0 18 → g 0 2 = g0 0 2 → Ex (fX12_gap_p35 fu t0 g L) (fun (r : Int32) (g1 : Nat → Nat → Int32) (L1 : Nat → Nat → Int64) => zI MT g1 ∧ mJ g1 ∧ g1 0 18 = g0 0 18 ∧ g1 0 2 = g0 0 2) := by
    intro t0 g L hI hJ k0_0 k0_1
    unfold fX12_gap_p35
    exact Ex.ret ⟨hI, hJ, k0_0, k0_1⟩
  have J34 : ∀ (g : Nat → Nat → Int32) (L : Nat → Nat → Int64), zI MT g → mJ g → g 0 18 = g0 0 18 → g 0 2 = g0 0 2 → Ex (fX12_gap_p34 fu g L) (fun (r : Int32) (g1 : Nat → Nat → Int32) (L1 : Nat → Nat → Int64) => zI MT g1 ∧ mJ g1 ∧ g1 0 18 = g0 0 18 ∧ g1 0 2 = g0 0 2) := by
    intro g L hI hJ k0_0 k0_1
    unfold fX12_gap_p34
    exact J35 0 g L hI hJ k0_0 k0_1
  refine Ex.ite (fun c9 => ?_) (fun c9 => ?_)
  ·
    have c9 := icc_eq (m := (Int32.toInt x2)) (n := 0) rfl (by decide) c9
    exact J34 g3 L4 hI hJ k0_0 k0_1
  ·
    have c9 := icc_neq (m := (Int32.toInt x2)) (n := 0) rfl (by decide) c9
    have b10 : 0 ≤ (Int32.toInt (g3 0 65)) ∧ (Int32.toInt (g3 0 65)) ≤ 1 := hI 0 65 0 1 rfl
    refine Ex.cb (sX12_right fu hfu (g3 0 65) 1 g3 L4 hI hJ (by omega) (by decide)) (fun x11 g12 L13 hq15 => ?_)
    obtain ⟨hI, hJ, kk0, kk1, rb_, ip0⟩ := hq15
    have b16 : 0 ≤ (Int32.toInt x11) ∧ (Int32.toInt x11) ≤ 1 := rb_
    have ip17 : (Int32.toInt x11) = 1 → 1 ≤ (Int32.toInt (g3 0 65)) ∧ (Int32.toInt (g3 0 65)) ≤ 1 := ip0
    have hI : zI MT g12 := hI
    have hJ : mJ g12 := hJ
    have k0_0 : g12 0 18 = g0 0 18 := kk0.trans k0_0
    have k0_1 : g12 0 2 = g0 0 2 := kk1.trans k0_1
    refine Ex.ite (fun c18 => ?_) (fun c18 => ?_)
    ·
      have c18 := icc_eq (m := (Int32.toInt x11)) (n := 0) rfl (by decide) c18
      exact J34 g12 L13 hI hJ k0_0 k0_1
    ·
      have c18 := icc_neq (m := (Int32.toInt x11)) (n := 0) rfl (by decide) c18
      refine Ex.ck (by omega) (by omega) ?_
      exact J35 (g12 38 (Int32.toNatClampNeg p1)) g12 L13 hI hJ k0_0 k0_1
