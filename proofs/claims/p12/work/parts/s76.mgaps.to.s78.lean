section
set_option maxHeartbeats 4000000 in
set_option maxRecDepth 100000 in
theorem sX12_gaps (fu : Nat) (hfu : 1180591620717411303424 ≤ fu) (p1 : Int32) (p2 : Int32) (p3 : Int32) (g0 : Nat → Nat → Int32) (L0 : Nat → Nat → Int64) (hI : zI MT g0) (hJ : mJ g0) : Ex (fX12_gaps fu p1 p2 p3 g0 L0) (fun (r : Int32) (g1 : Nat → Nat → Int32) (L1 : Nat → Nat → Int64) => zI MT g1 ∧ mJ g1 ∧ g1 0 18 = g0 0 18 ∧ g1 0 2 = g0 0 2) := by
  have k0_0 : g0 0 18 = g0 0 18 := rfl
  have k0_1 : g0 0 2 = g0 0 2 := rfl
  unfold fX12_gaps
  refine Ex.sti (hI.updN rfl) (fun g1 g1e hI => ?_)
  have k0_0 : g1 0 18 = g0 0 18 := by rw [g1e]; exact k0_0
  have k0_1 : g1 0 2 = g0 0 2 := by rw [g1e]; exact k0_1
  have hJ : mJ g1 := by rw [g1e]; exact mJ.upd hJ rfl
  refine Ex.cb (sX12_isLesson fu hfu p2 g1 L0 hI hJ) (fun x2 g3 L4 hq6 => ?_)
  obtain ⟨hI, hJ, kk0, kk1, rb_, ip0⟩ := hq6
  have b7 : 0 ≤ (Int32.toInt x2) ∧ (Int32.toInt x2) ≤ 1 := rb_
  have ip8 : (Int32.toInt x2) = 1 → 0 ≤ (Int32.toInt p2) ∧ (Int32.toInt p2) ≤ 11 := ip0
  have hI : zI MT g3 := hI
  have hJ : mJ g3 := hJ
  have k0_0 : g3 0 18 = g0 0 18 := kk0.trans k0_0
  have k0_1 : g3 0 2 = g0 0 2 := kk1.trans k0_1
  have J59 : ∀ (g : Nat → Nat → Int32) (L : Nat → Nat → Int64), zI MT g → mJ g → g 0 18 = g0 0 18 → g 0 2 = g0 0 2 → Ex (fX12_gaps_p59 fu g L) (fun (r : Int32) (g1 : Nat → Nat → Int32) (L1 : Nat → Nat → Int64) => zI MT g1 ∧ mJ g1 ∧ g1 0 18 = g0 0 18 ∧ g1 0 2 = g0 0 2) := by
    intro g L hI hJ k0_0 k0_1
    unfold fX12_gaps_p59
    exact Ex.ret ⟨hI, hJ, k0_0, k0_1⟩
  refine Ex.ite (fun c9 => ?_) (fun c9 => ?_)
  ·
    have rg10 := ic_rg x2
    have c9 := icc_eq (m := (Int32.toInt x2)) (n := 0) rfl (by decide) c9
    exact J59 g3 L4 hI hJ k0_0 k0_1
  ·
    have rg11 := ic_rg x2
    have c9 := icc_neq (m := (Int32.toInt x2)) (n := 0) rfl (by decide) c9
    have J52 : ∀ (v1 : Int32) (v2 : Int32) (v3 : Int32) (t0 : Int32) (g : Nat → Nat → Int32) (L : Nat → Nat → Int64), (0 ≤ (Int32.toInt v2) ∧ (Int32.toInt v2) ≤ 11) → (0 ≤ (Int32.toInt t0) ∧ (Int32.toInt t0) ≤ 1) → ((Int32.toInt t0) = 1 → pbs v1 12 ≤ 5) → zI MT g → mJ g → g 0 18 = g0 0 18 → g 0 2 = g0 0 2 → Ex (fX12_gaps_p52 fu v1 v2 v3 t0 g L) (fun (r : Int32) (g1 : Nat → Nat → Int32) (L1 : Nat → Nat → Int64) => zI MT g1 ∧ mJ g1 ∧ g1 0 18 = g0 0 18 ∧ g1 0 2 = g0 0 2) := by
      intro v1 v2 v3 t0 g L hb_v2 hb_t0 hn_0 hI hJ k0_0 k0_1
      unfold fX12_gaps_p52
      refine Ex.cb (sX12_right fu hfu t0 2 g L hI hJ (by omega) (by decide)) (fun x12 g13 L14 hq16 => ?_)
      obtain ⟨hI, hJ, kk0, kk1, rb_, ip0⟩ := hq16
      have b17 : 0 ≤ (Int32.toInt x12) ∧ (Int32.toInt x12) ≤ 1 := rb_
      have ip18 : (Int32.toInt x12) = 1 → 1 ≤ (Int32.toInt t0) ∧ (Int32.toInt t0) ≤ 1 := ip0
      have hI : zI MT g13 := hI
      have hJ : mJ g13 := hJ
      have k0_0 : g13 0 18 = g0 0 18 := kk0.trans k0_0
      have k0_1 : g13 0 2 = g0 0 2 := kk1.trans k0_1
      refine Ex.ite (fun c19 => ?_) (fun c19 => ?_)
      ·
        have rg20 := ic_rg x12
        have c19 := icc_eq (m := (Int32.toInt x12)) (n := 0) rfl (by decide) c19
        exact J59 g13 L14 hI hJ k0_0 k0_1
      ·
        have rg21 := ic_rg x12
        have c19 := icc_neq (m := (Int32.toInt x12)) (n := 0) rfl (by decide) c19
        have hm_ : pbs v1 (Int32.toNatClampNeg 0) = 0 := rfl
        have lp67 : ∀ (v1 : Int32) (v2 : Int32) (v3 : Int32) (v4 : Int32) (v5 : Int32) (g : Nat → Nat → Int32) (L : Nat → Nat → Int64), (0 ≤ (Int32.toInt v2) ∧ (Int32.toInt v2) ≤ 11) → (0 ≤ (Int32.toInt v4) ∧ (Int32.toInt v4) ≤ 5) → (0 ≤ (Int32.toInt v5) ∧ (Int32.toInt v5) ≤ 12) → ((Int32.toInt v4) = pbs v1 (Int32.toNatClampNeg v5)) → (pbs v1 12 ≤ 5) → zI MT g → mJ g → g 0 18 = g0 0 18 → g 0 2 = g0 0 2 → Ex (fX12_gaps_l67 fu v1 v2 v3 v4 v5 g L) (fun (r : Int32) (g1 : Nat → Nat → Int32) (L1 : Nat → Nat → Int64) => zI MT g1 ∧ mJ g1 ∧ g1 0 18 = g0 0 18 ∧ g1 0 2 = g0 0 2) := by
          intro v1 v2 v3 v4 v5 g L hb_v2 hb_v4 hb_v5 hn_0 hn_1 hI hJ k0_0 k0_1
          unfold fX12_gaps_l67
          have rg22 := ic_rg v1
          have rg23 := ic_rg v2
          have rg24 := ic_rg v3
          have rg25 := ic_rg v4
          have rg26 := ic_rg v5
          refine Ex.loop (fun v => ((0 ≤ (Int32.toInt v2) ∧ (Int32.toInt v2) ≤ 11)) ∧ ((0 ≤ (Int32.toInt (v.1)) ∧ (Int32.toInt (v.1)) ≤ 5)) ∧ ((0 ≤ (Int32.toInt (v.2.1)) ∧ (Int32.toInt (v.2.1)) ≤ 12)) ∧ (((Int32.toInt (v.1)) = pbs v1 (Int32.toNatClampNeg (v.2.1)))) ∧ ((pbs v1 12 ≤ 5)) ∧ (zI MT (v.2.2.1)) ∧ (mJ (v.2.2.1)) ∧ ((v.2.2.1) 0 18 = g0 0 18) ∧ ((v.2.2.1) 0 2 = g0 0 2)) (fun v => 13 - (Int32.toInt (v.2.1))) (by omega) (by show 13 - (Int32.toInt v5) < (fu : Int); omega) ⟨hb_v2, hb_v4, hb_v5, hn_0, hn_1, hI, hJ, k0_0, k0_1⟩ (fun k67 v hv ih67 => ?_)
          obtain ⟨v4, v5, g, L⟩ := v
          obtain ⟨hb_v2, hb_v4, hb_v5, hn_0, hn_1, hI, hJ, k0_0, k0_1⟩ := hv
          have hb_v2 : (0 ≤ (Int32.toInt v2) ∧ (Int32.toInt v2) ≤ 11) := hb_v2
          have hb_v4 : (0 ≤ (Int32.toInt v4) ∧ (Int32.toInt v4) ≤ 5) := hb_v4
          have hb_v5 : (0 ≤ (Int32.toInt v5) ∧ (Int32.toInt v5) ≤ 12) := hb_v5
          have hn_0 : ((Int32.toInt v4) = pbs v1 (Int32.toNatClampNeg v5)) := hn_0
          have hn_1 : (pbs v1 12 ≤ 5) := hn_1
          have hI : zI MT g := hI
          have hJ : mJ g := hJ
          have k0_0 : g 0 18 = g0 0 18 := k0_0
          have k0_1 : g 0 2 = g0 0 2 := k0_1
          have ih67 : ∀ v' : Int32 × Int32 × (Nat → Nat → Int32) × (Nat → Nat → Int64), (((0 ≤ (Int32.toInt v2) ∧ (Int32.toInt v2) ≤ 11)) ∧ ((0 ≤ (Int32.toInt (v'.1)) ∧ (Int32.toInt (v'.1)) ≤ 5)) ∧ ((0 ≤ (Int32.toInt (v'.2.1)) ∧ (Int32.toInt (v'.2.1)) ≤ 12)) ∧ (((Int32.toInt (v'.1)) = pbs v1 (Int32.toNatClampNeg (v'.2.1)))) ∧ ((pbs v1 12 ≤ 5)) ∧ (zI MT (v'.2.2.1)) ∧ (mJ (v'.2.2.1)) ∧ ((v'.2.2.1) 0 18 = g0 0 18) ∧ ((v'.2.2.1) 0 2 = g0 0 2)) → 13 - (Int32.toInt (v'.2.1)) < 13 - (Int32.toInt v5) → 0 < 13 - (Int32.toInt v5) → Ex (k67 v') (fun (r : Int32) (g1 : Nat → Nat → Int32) (L1 : Nat → Nat → Int64) => zI MT g1 ∧ mJ g1 ∧ g1 0 18 = g0 0 18 ∧ g1 0 2 = g0 0 2) := ih67
          show Ex (fX12_gaps_s67 fu v1 v2 v3 k67 v4 v5 g L) (fun (r : Int32) (g1 : Nat → Nat → Int32) (L1 : Nat → Nat → Int64) => zI MT g1 ∧ mJ g1 ∧ g1 0 18 = g0 0 18 ∧ g1 0 2 = g0 0 2)
          unfold fX12_gaps_s67
          have hm_ := pbs_le (s := v1) (k := (Int32.toNatClampNeg v5)) (by rw [nc]; omega)
          have hm2_ := pbs_pos v1 (Int32.toNatClampNeg v5)
          refine Ex.ite (fun c27 => ?_) (fun c27 => ?_)
          ·
            have rg28 := ic_rg v5
            have c27 := icc_le (m := 12) (n := (Int32.toInt v5)) (by decide) rfl c27
            have lp127 : ∀ (v2 : Int32) (v3 : Int32) (v4 : Int32) (v5 : Int32) (v6 : Int32) (g : Nat → Nat → Int32) (L : Nat → Nat → Int64), (0 ≤ (Int32.toInt v2) ∧ (Int32.toInt v2) ≤ 11) → (0 ≤ (Int32.toInt v4) ∧ (Int32.toInt v4) ≤ 5) → (0 ≤ (Int32.toInt v6) ∧ (Int32.toInt v6) ≤ 5) → zI MT g → mJ g → g 0 18 = g0 0 18 → g 0 2 = g0 0 2 → Ex (fX12_gaps_l127 fu v2 v3 v4 v5 v6 g L) (fun (r : Int32) (g1 : Nat → Nat → Int32) (L1 : Nat → Nat → Int64) => zI MT g1 ∧ mJ g1 ∧ g1 0 18 = g0 0 18 ∧ g1 0 2 = g0 0 2) := by
              intro v2 v3 v4 v5 v6 g L hb_v2 hb_v4 hb_v6 hI hJ k0_0 k0_1
              unfold fX12_gaps_l127
              have rg29 := ic_rg v2
              have rg30 := ic_rg v3
              have rg31 := ic_rg v4
              have rg32 := ic_rg v5
              have rg33 := ic_rg v6
              refine Ex.loop (fun v => ((0 ≤ (Int32.toInt v2) ∧ (Int32.toInt v2) ≤ 11)) ∧ ((0 ≤ (Int32.toInt v4) ∧ (Int32.toInt v4) ≤ 5)) ∧ ((0 ≤ (Int32.toInt (v.2.1)) ∧ (Int32.toInt (v.2.1)) ≤ 5)) ∧ (zI MT (v.2.2.1)) ∧ (mJ (v.2.2.1)) ∧ ((v.2.2.1) 0 18 = g0 0 18) ∧ ((v.2.2.1) 0 2 = g0 0 2)) (fun v => 6 - (Int32.toInt (v.2.1))) (by omega) (by show 6 - (Int32.toInt v6) < (fu : Int); omega) ⟨hb_v2, hb_v4, hb_v6, hI, hJ, k0_0, k0_1⟩ (fun k127 v hv ih127 => ?_)
              obtain ⟨v5, v6, g, L⟩ := v
              obtain ⟨hb_v2, hb_v4, hb_v6, hI, hJ, k0_0, k0_1⟩ := hv
              have hb_v2 : (0 ≤ (Int32.toInt v2) ∧ (Int32.toInt v2) ≤ 11) := hb_v2
              have hb_v4 : (0 ≤ (Int32.toInt v4) ∧ (Int32.toInt v4) ≤ 5) := hb_v4
              have hb_v6 : (0 ≤ (Int32.toInt v6) ∧ (Int32.toInt v6) ≤ 5) := hb_v6
              have hI : zI MT g := hI
              have hJ : mJ g := hJ
              have k0_0 : g 0 18 = g0 0 18 := k0_0
              have k0_1 : g 0 2 = g0 0 2 := k0_1
              have ih127 : ∀ v' : Int32 × Int32 × (Nat → Nat → Int32) × (Nat → Nat → Int64), (((0 ≤ (Int32.toInt v2) ∧ (Int32.toInt v2) ≤ 11)) ∧ ((0 ≤ (Int32.toInt v4) ∧ (Int32.toInt v4) ≤ 5)) ∧ ((0 ≤ (Int32.toInt (v'.2.1)) ∧ (Int32.toInt (v'.2.1)) ≤ 5)) ∧ (zI MT (v'.2.2.1)) ∧ (mJ (v'.2.2.1)) ∧ ((v'.2.2.1) 0 18 = g0 0 18) ∧ ((v'.2.2.1) 0 2 = g0 0 2)) → 6 - (Int32.toInt (v'.2.1)) < 6 - (Int32.toInt v6) → 0 < 6 - (Int32.toInt v6) → Ex (k127 v') (fun (r : Int32) (g1 : Nat → Nat → Int32) (L1 : Nat → Nat → Int64) => zI MT g1 ∧ mJ g1 ∧ g1 0 18 = g0 0 18 ∧ g1 0 2 = g0 0 2) := ih127
              show Ex (fX12_gaps_s127 fu v2 v3 v4 k127 v5 v6 g L) (fun (r : Int32) (g1 : Nat → Nat → Int32) (L1 : Nat → Nat → Int64) => zI MT g1 ∧ mJ g1 ∧ g1 0 18 = g0 0 18 ∧ g1 0 2 = g0 0 2)
              unfold fX12_gaps_s127
              refine Ex.ite (fun c34 => ?_) (fun c34 => ?_)
              ·
                have rg35 := ic_rg v6
                have rg36 := ic_rg v4
                have c34 := icc_le (m := (Int32.toInt v4)) (n := (Int32.toInt v6)) rfl rfl c34
                have lp152 : ∀ (v2 : Int32) (v3 : Int32) (v4 : Int32) (v5 : Int32) (v6 : Int32) (v7 : Int32) (g : Nat → Nat → Int32) (L : Nat → Nat → Int64), (0 ≤ (Int32.toInt v2) ∧ (Int32.toInt v2) ≤ 11) → (0 ≤ (Int32.toInt v4) ∧ (Int32.toInt v4) ≤ 5) → (0 ≤ (Int32.toInt v7)) → zI MT g → mJ g → g 0 18 = g0 0 18 → g 0 2 = g0 0 2 → Ex (fX12_gaps_l152 fu v2 v3 v4 v5 v6 v7 g L) (fun (r : Int32) (g1 : Nat → Nat → Int32) (L1 : Nat → Nat → Int64) => zI MT g1 ∧ mJ g1 ∧ g1 0 18 = g0 0 18 ∧ g1 0 2 = g0 0 2) := by
                  intro v2 v3 v4 v5 v6 v7 g L hb_v2 hb_v4 hb_v7 hI hJ k0_0 k0_1
                  unfold fX12_gaps_l152
                  have rg37 := ic_rg v2
                  have rg38 := ic_rg v3
                  have rg39 := ic_rg v4
                  have rg40 := ic_rg v5
                  have rg41 := ic_rg v6
                  have rg42 := ic_rg v7
                  refine Ex.loop (fun v => ((0 ≤ (Int32.toInt v2) ∧ (Int32.toInt v2) ≤ 11)) ∧ ((0 ≤ (Int32.toInt v4) ∧ (Int32.toInt v4) ≤ 5)) ∧ ((0 ≤ (Int32.toInt (v.2.1)))) ∧ (zI MT (v.2.2.1)) ∧ (mJ (v.2.2.1)) ∧ ((v.2.2.1) 0 18 = g0 0 18) ∧ ((v.2.2.1) 0 2 = g0 0 2)) (fun v => (Int32.toInt v5) - (Int32.toInt (v.2.1))) (by omega) (by show (Int32.toInt v5) - (Int32.toInt v7) < (fu : Int); omega) ⟨hb_v2, hb_v4, hb_v7, hI, hJ, k0_0, k0_1⟩ (fun k152 v hv ih152 => ?_)
                  obtain ⟨v6, v7, g, L⟩ := v
                  obtain ⟨hb_v2, hb_v4, hb_v7, hI, hJ, k0_0, k0_1⟩ := hv
                  have hb_v2 : (0 ≤ (Int32.toInt v2) ∧ (Int32.toInt v2) ≤ 11) := hb_v2
                  have hb_v4 : (0 ≤ (Int32.toInt v4) ∧ (Int32.toInt v4) ≤ 5) := hb_v4
                  have hb_v7 : (0 ≤ (Int32.toInt v7)) := hb_v7
                  have hI : zI MT g := hI
                  have hJ : mJ g := hJ
                  have k0_0 : g 0 18 = g0 0 18 := k0_0
                  have k0_1 : g 0 2 = g0 0 2 := k0_1
                  have ih152 : ∀ v' : Int32 × Int32 × (Nat → Nat → Int32) × (Nat → Nat → Int64), (((0 ≤ (Int32.toInt v2) ∧ (Int32.toInt v2) ≤ 11)) ∧ ((0 ≤ (Int32.toInt v4) ∧ (Int32.toInt v4) ≤ 5)) ∧ ((0 ≤ (Int32.toInt (v'.2.1)))) ∧ (zI MT (v'.2.2.1)) ∧ (mJ (v'.2.2.1)) ∧ ((v'.2.2.1) 0 18 = g0 0 18) ∧ ((v'.2.2.1) 0 2 = g0 0 2)) → (Int32.toInt v5) - (Int32.toInt (v'.2.1)) < (Int32.toInt v5) - (Int32.toInt v7) → 0 < (Int32.toInt v5) - (Int32.toInt v7) → Ex (k152 v') (fun (r : Int32) (g1 : Nat → Nat → Int32) (L1 : Nat → Nat → Int64) => zI MT g1 ∧ mJ g1 ∧ g1 0 18 = g0 0 18 ∧ g1 0 2 = g0 0 2) := ih152
                  show Ex (fX12_gaps_s152 fu v2 v3 v4 v5 k152 v6 v7 g L) (fun (r : Int32) (g1 : Nat → Nat → Int32) (L1 : Nat → Nat → Int64) => zI MT g1 ∧ mJ g1 ∧ g1 0 18 = g0 0 18 ∧ g1 0 2 = g0 0 2)
                  unfold fX12_gaps_s152
                  refine Ex.ite (fun c43 => ?_) (fun c43 => ?_)
                  ·
                    have rg44 := ic_rg v7
                    have rg45 := ic_rg v5
                    have c43 := icc_le (m := (Int32.toInt v5)) (n := (Int32.toInt v7)) rfl rfl c43
                    have lp295 : ∀ (v6 : Int32) (v7 : Int32) (g : Nat → Nat → Int32) (L : Nat → Nat → Int64), (0 ≤ (Int32.toInt v7) ∧ (Int32.toInt v7) ≤ 12) → zI MT g → mJ g → g 0 18 = g0 0 18 → g 0 2 = g0 0 2 → Ex (fX12_gaps_l295 fu v6 v7 g L) (fun (r : Int32) (g1 : Nat → Nat → Int32) (L1 : Nat → Nat → Int64) => zI MT g1 ∧ mJ g1 ∧ g1 0 18 = g0 0 18 ∧ g1 0 2 = g0 0 2) := by
                      intro v6 v7 g L hb_v7 hI hJ k0_0 k0_1
                      unfold fX12_gaps_l295
                      have rg46 := ic_rg v6
                      have rg47 := ic_rg v7
                      refine Ex.loop (fun v => ((0 ≤ (Int32.toInt (v.1)) ∧ (Int32.toInt (v.1)) ≤ 12)) ∧ (zI MT (v.2.1)) ∧ (mJ (v.2.1)) ∧ ((v.2.1) 0 18 = g0 0 18) ∧ ((v.2.1) 0 2 = g0 0 2)) (fun v => 13 - (Int32.toInt (v.1))) (by omega) (by show 13 - (Int32.toInt v7) < (fu : Int); omega) ⟨hb_v7, hI, hJ, k0_0, k0_1⟩ (fun k295 v hv ih295 => ?_)
                      obtain ⟨v7, g, L⟩ := v
                      obtain ⟨hb_v7, hI, hJ, k0_0, k0_1⟩ := hv
                      have hb_v7 : (0 ≤ (Int32.toInt v7) ∧ (Int32.toInt v7) ≤ 12) := hb_v7
                      have hI : zI MT g := hI
                      have hJ : mJ g := hJ
                      have k0_0 : g 0 18 = g0 0 18 := k0_0
                      have k0_1 : g 0 2 = g0 0 2 := k0_1
                      have ih295 : ∀ v' : Int32 × (Nat → Nat → Int32) × (Nat → Nat → Int64), (((0 ≤ (Int32.toInt (v'.1)) ∧ (Int32.toInt (v'.1)) ≤ 12)) ∧ (zI MT (v'.2.1)) ∧ (mJ (v'.2.1)) ∧ ((v'.2.1) 0 18 = g0 0 18) ∧ ((v'.2.1) 0 2 = g0 0 2)) → 13 - (Int32.toInt (v'.1)) < 13 - (Int32.toInt v7) → 0 < 13 - (Int32.toInt v7) → Ex (k295 v') (fun (r : Int32) (g1 : Nat → Nat → Int32) (L1 : Nat → Nat → Int64) => zI MT g1 ∧ mJ g1 ∧ g1 0 18 = g0 0 18 ∧ g1 0 2 = g0 0 2) := ih295
                      show Ex (fX12_gaps_s295 fu v6 k295 v7 g L) (fun (r : Int32) (g1 : Nat → Nat → Int32) (L1 : Nat → Nat → Int64) => zI MT g1 ∧ mJ g1 ∧ g1 0 18 = g0 0 18 ∧ g1 0 2 = g0 0 2)
                      unfold fX12_gaps_s295
                      refine Ex.ite (fun c48 => ?_) (fun c48 => ?_)
                      ·
                        have rg49 := ic_rg v7
                        have c48 := icc_le (m := 12) (n := (Int32.toInt v7)) (by decide) rfl c48
                        have J336 : ∀ (v6 : Int32) (g : Nat → Nat → Int32) (L : Nat → Nat → Int64), zI MT g → mJ g → g 0 18 = g0 0 18 → g 0 2 = g0 0 2 → Ex (fX12_gaps_p336 fu v6 g L) (fun (r : Int32) (g1 : Nat → Nat → Int32) (L1 : Nat → Nat → Int64) => zI MT g1 ∧ mJ g1 ∧ g1 0 18 = g0 0 18 ∧ g1 0 2 = g0 0 2) := by
                          intro v6 g L hI hJ k0_0 k0_1
                          unfold fX12_gaps_p336
                          exact Ex.ret ⟨hI, hJ, k0_0, k0_1⟩
                        refine Ex.ite (fun c50 => ?_) (fun c50 => ?_)
                        ·
                          have rg51 := ic_rg v6
                          have c50 := icc_eq (m := (Int32.toInt v6)) (n := (-1)) rfl (by decide) c50
                          exact J336 v6 g L hI hJ k0_0 k0_1
                        ·
                          have rg52 := ic_rg v6
                          have c50 := icc_neq (m := (Int32.toInt v6)) (n := (-1)) rfl (by decide) c50
                          refine Ex.sti (hI.upd rfl (by decide) (by decide)) (fun g53 g53e hI => ?_)
                          have k0_0 : g53 0 18 = g0 0 18 := by rw [g53e]; exact k0_0
                          have k0_1 : g53 0 2 = g0 0 2 := by rw [g53e]; exact k0_1
                          have hJ : mJ g53 := by rw [g53e]; exact mJ.upd hJ rfl
                          exact J336 v6 g53 L hI hJ k0_0 k0_1
                      ·
                        have rg54 := ic_rg v7
                        have c48 := icc_nle (m := 12) (n := (Int32.toInt v7)) (by decide) rfl c48
                        generalize z55q : (12 + v7) = z55
                        have e56 : (Int32.toInt z55) = 12 + (Int32.toInt v7) := by rw [← z55q]; exact ic_addc (by decide) rfl (by omega) (by omega)
                        refine Ex.ck (by omega) (by omega) ?_
                        refine Ex.ck (by omega) (by omega) ?_
                        refine Ex.sti (hI.updN rfl) (fun g57 g57e hI => ?_)
                        have k0_0 : g57 0 18 = g0 0 18 := by rw [g57e]; exact k0_0
                        have k0_1 : g57 0 2 = g0 0 2 := by rw [g57e]; exact k0_1
                        have hJ : mJ g57 := by rw [g57e]; exact mJ.upd hJ rfl
                        generalize z58q : (v7 + 1) = z58
                        have e59 : (Int32.toInt z58) = (Int32.toInt v7) + 1 := by rw [← z58q]; exact ic_addc rfl (by decide) (by omega) (by omega)
                        exact ih295 (z58, g57, L) ⟨(show (0 ≤ (Int32.toInt z58) ∧ (Int32.toInt z58) ≤ 12) from by omega), hI, hJ, k0_0, k0_1⟩ (by show 13 - (Int32.toInt z58) < _; omega) (by omega)
                    exact lp295 v6 0 g L (by decide) hI hJ k0_0 k0_1
                  ·
                    have rg60 := ic_rg v7
                    have rg61 := ic_rg v5
                    have c43 := icc_nle (m := (Int32.toInt v5)) (n := (Int32.toInt v7)) rfl rfl c43
                    generalize z62q : (v4 - 1) = z62
                    have e63 : (Int32.toInt z62) = (Int32.toInt v4) - 1 := by rw [← z62q]; exact ic_subc rfl (by decide) (by omega) (by omega)
                    refine Ex.lti (fun x64 x64e x64i => ?_)
                    have lp172 : ∀ (v8 : Int32) (v9 : Int32) (v10 : Int32) (g : Nat → Nat → Int32) (L : Nat → Nat → Int64), (0 ≤ (Int32.toInt v2) ∧ (Int32.toInt v2) ≤ 11) → (0 ≤ (Int32.toInt v4) ∧ (Int32.toInt v4) ≤ 5) → (1 ≤ (Int32.toInt v5)) → (0 ≤ (Int32.toInt v7) ∧ (Int32.toInt v7) ≤ 2147483646) → ((-1) ≤ (Int32.toInt v10) ∧ (Int32.toInt v10) ≤ 4) → zI MT g → mJ g → g 0 18 = g0 0 18 → g 0 2 = g0 0 2 → Ex (fX12_gaps_l172 fu k152 v2 v3 v4 v5 v6 v7 v8 v9 v10 g L) (fun (r : Int32) (g1 : Nat → Nat → Int32) (L1 : Nat → Nat → Int64) => zI MT g1 ∧ mJ g1 ∧ g1 0 18 = g0 0 18 ∧ g1 0 2 = g0 0 2) := by
                      intro v8 v9 v10 g L hb_v2 hb_v4 hb_v5 hb_v7 hb_v10 hI hJ k0_0 k0_1
                      unfold fX12_gaps_l172
                      have rg65 := ic_rg v2
                      have rg66 := ic_rg v3
                      have rg67 := ic_rg v4
                      have rg68 := ic_rg v5
                      have rg69 := ic_rg v6
                      have rg70 := ic_rg v7
                      have rg71 := ic_rg v8
                      have rg72 := ic_rg v9
                      have rg73 := ic_rg v10
                      refine Ex.loop (fun v => ((0 ≤ (Int32.toInt v2) ∧ (Int32.toInt v2) ≤ 11)) ∧ ((0 ≤ (Int32.toInt v4) ∧ (Int32.toInt v4) ≤ 5)) ∧ ((1 ≤ (Int32.toInt v5))) ∧ ((0 ≤ (Int32.toInt v7) ∧ (Int32.toInt v7) ≤ 2147483646)) ∧ (((-1) ≤ (Int32.toInt (v.2.2.1)) ∧ (Int32.toInt (v.2.2.1)) ≤ 4)) ∧ (zI MT (v.2.2.2.1)) ∧ (mJ (v.2.2.2.1)) ∧ ((v.2.2.2.1) 0 18 = g0 0 18) ∧ ((v.2.2.2.1) 0 2 = g0 0 2)) (fun v => (Int32.toInt (v.2.2.1)) - (-2)) (by omega) (by show (Int32.toInt v10) - (-2) < (fu : Int); omega) ⟨hb_v2, hb_v4, hb_v5, hb_v7, hb_v10, hI, hJ, k0_0, k0_1⟩ (fun k172 v hv ih172 => ?_)
                      obtain ⟨v8, v9, v10, g, L⟩ := v
                      obtain ⟨hb_v2, hb_v4, hb_v5, hb_v7, hb_v10, hI, hJ, k0_0, k0_1⟩ := hv
                      have hb_v2 : (0 ≤ (Int32.toInt v2) ∧ (Int32.toInt v2) ≤ 11) := hb_v2
                      have hb_v4 : (0 ≤ (Int32.toInt v4) ∧ (Int32.toInt v4) ≤ 5) := hb_v4
                      have hb_v5 : (1 ≤ (Int32.toInt v5)) := hb_v5
                      have hb_v7 : (0 ≤ (Int32.toInt v7) ∧ (Int32.toInt v7) ≤ 2147483646) := hb_v7
                      have hb_v10 : ((-1) ≤ (Int32.toInt v10) ∧ (Int32.toInt v10) ≤ 4) := hb_v10
                      have hI : zI MT g := hI
                      have hJ : mJ g := hJ
                      have k0_0 : g 0 18 = g0 0 18 := k0_0
                      have k0_1 : g 0 2 = g0 0 2 := k0_1
                      have ih172 : ∀ v' : Int32 × Int32 × Int32 × (Nat → Nat → Int32) × (Nat → Nat → Int64), (((0 ≤ (Int32.toInt v2) ∧ (Int32.toInt v2) ≤ 11)) ∧ ((0 ≤ (Int32.toInt v4) ∧ (Int32.toInt v4) ≤ 5)) ∧ ((1 ≤ (Int32.toInt v5))) ∧ ((0 ≤ (Int32.toInt v7) ∧ (Int32.toInt v7) ≤ 2147483646)) ∧ (((-1) ≤ (Int32.toInt (v'.2.2.1)) ∧ (Int32.toInt (v'.2.2.1)) ≤ 4)) ∧ (zI MT (v'.2.2.2.1)) ∧ (mJ (v'.2.2.2.1)) ∧ ((v'.2.2.2.1) 0 18 = g0 0 18) ∧ ((v'.2.2.2.1) 0 2 = g0 0 2)) → (Int32.toInt (v'.2.2.1)) - (-2) < (Int32.toInt v10) - (-2) → 0 < (Int32.toInt v10) - (-2) → Ex (k172 v') (fun (r : Int32) (g1 : Nat → Nat → Int32) (L1 : Nat → Nat → Int64) => zI MT g1 ∧ mJ g1 ∧ g1 0 18 = g0 0 18 ∧ g1 0 2 = g0 0 2) := ih172
                      show Ex (fX12_gaps_s172 fu k152 v2 v3 v4 v5 v6 v7 k172 v8 v9 v10 g L) (fun (r : Int32) (g1 : Nat → Nat → Int32) (L1 : Nat → Nat → Int64) => zI MT g1 ∧ mJ g1 ∧ g1 0 18 = g0 0 18 ∧ g1 0 2 = g0 0 2)
                      unfold fX12_gaps_s172
                      refine Ex.ite (fun c74 => ?_) (fun c74 => ?_)
                      ·
                        have rg75 := ic_rg v10
                        have c74 := icc_lt (m := (Int32.toInt v10)) (n := 0) rfl (by decide) c74
                        have J286 : ∀ (v6 : Int32) (g : Nat → Nat → Int32) (L : Nat → Nat → Int64), (0 ≤ (Int32.toInt v2) ∧ (Int32.toInt v2) ≤ 11) → (0 ≤ (Int32.toInt v4) ∧ (Int32.toInt v4) ≤ 5) → (1 ≤ (Int32.toInt v5)) → (0 ≤ (Int32.toInt v7) ∧ (Int32.toInt v7) ≤ 2147483646) → zI MT g → mJ g → g 0 18 = g0 0 18 → g 0 2 = g0 0 2 → Ex (fX12_gaps_p286 fu k152 v2 v3 v4 v5 v6 v7 g L) (fun (r : Int32) (g1 : Nat → Nat → Int32) (L1 : Nat → Nat → Int64) => zI MT g1 ∧ mJ g1 ∧ g1 0 18 = g0 0 18 ∧ g1 0 2 = g0 0 2) := by
                          intro v6 g L hb_v2 hb_v4 hb_v5 hb_v7 hI hJ k0_0 k0_1
                          unfold fX12_gaps_p286
                          generalize z76q : (v7 + 1) = z76
                          have e77 : (Int32.toInt z76) = (Int32.toInt v7) + 1 := by rw [← z76q]; exact ic_addc rfl (by decide) (by omega) (by omega)
                          exact ih152 (v6, z76, g, L) ⟨(show (0 ≤ (Int32.toInt v2) ∧ (Int32.toInt v2) ≤ 11) from by omega), (show (0 ≤ (Int32.toInt v4) ∧ (Int32.toInt v4) ≤ 5) from by omega), (show (0 ≤ (Int32.toInt z76)) from by omega), hI, hJ, k0_0, k0_1⟩ (by show (Int32.toInt v5) - (Int32.toInt z76) < _; omega) (by omega)
                        have J233 : ∀ (v8 : Int32) (g : Nat → Nat → Int32) (L : Nat → Nat → Int64), (0 ≤ (Int32.toInt v2) ∧ (Int32.toInt v2) ≤ 11) → (0 ≤ (Int32.toInt v4) ∧ (Int32.toInt v4) ≤ 5) → (1 ≤ (Int32.toInt v5)) → ((-2147483647) ≤ (Int32.toInt v6)) → (0 ≤ (Int32.toInt v7) ∧ (Int32.toInt v7) ≤ 2147483646) → zI MT g → mJ g → g 0 18 = g0 0 18 → g 0 2 = g0 0 2 → Ex (fX12_gaps_p233 fu k152 v2 v3 v4 v5 v6 v7 v8 g L) (fun (r : Int32) (g1 : Nat → Nat → Int32) (L1 : Nat → Nat → Int64) => zI MT g1 ∧ mJ g1 ∧ g1 0 18 = g0 0 18 ∧ g1 0 2 = g0 0 2) := by
                          intro v8 g L hb_v2 hb_v4 hb_v5 hb_v6 hb_v7 hI hJ k0_0 k0_1
                          unfold fX12_gaps_p233
                          refine Ex.cb (sX12_works0 fu hfu g L hI hJ) (fun x78 g79 L80 hq82 => ?_)
                          obtain ⟨hI, hJ, kk0, kk1⟩ := hq82
                          have hI : zI MT g79 := hI
                          have hJ : mJ g79 := hJ
                          have k0_0 : g79 0 18 = g0 0 18 := kk0.trans k0_0
                          have k0_1 : g79 0 2 = g0 0 2 := kk1.trans k0_1
                          refine Ex.cb (sX12_late fu hfu v2 g79 L80 hI hJ (by omega)) (fun x83 g84 L85 hq87 => ?_)
                          obtain ⟨hI, hJ, kk0, kk1⟩ := hq87
                          have hI : zI MT g84 := hI
                          have hJ : mJ g84 := hJ
                          have k0_0 : g84 0 18 = g0 0 18 := kk0.trans k0_0
                          have k0_1 : g84 0 2 = g0 0 2 := kk1.trans k0_1
                          refine Ex.ite (fun c88 => ?_) (fun c88 => ?_)
                          ·
                            have rg89 := ic_rg x83
                            have rg90 := ic_rg v3
                            have c88 := icc_le (m := (Int32.toInt x83)) (n := (Int32.toInt v3)) rfl rfl c88
                            have lp256 : ∀ (v6 : Int32) (v10 : Int32) (g : Nat → Nat → Int32) (L : Nat → Nat → Int64), (0 ≤ (Int32.toInt v2) ∧ (Int32.toInt v2) ≤ 11) → (0 ≤ (Int32.toInt v4) ∧ (Int32.toInt v4) ≤ 5) → (1 ≤ (Int32.toInt v5)) → (0 ≤ (Int32.toInt v7) ∧ (Int32.toInt v7) ≤ 2147483646) → (0 ≤ (Int32.toInt v10) ∧ (Int32.toInt v10) ≤ 12) → zI MT g → mJ g → g 0 18 = g0 0 18 → g 0 2 = g0 0 2 → Ex (fX12_gaps_l256 fu k152 v2 v3 v4 v5 v6 v7 v10 g L) (fun (r : Int32) (g1 : Nat → Nat → Int32) (L1 : Nat → Nat → Int64) => zI MT g1 ∧ mJ g1 ∧ g1 0 18 = g0 0 18 ∧ g1 0 2 = g0 0 2) := by
                              intro v6 v10 g L hb_v2 hb_v4 hb_v5 hb_v7 hb_v10 hI hJ k0_0 k0_1
                              unfold fX12_gaps_l256
                              have rg91 := ic_rg v2
                              have rg92 := ic_rg v3
                              have rg93 := ic_rg v4
                              have rg94 := ic_rg v5
                              have rg95 := ic_rg v6
                              have rg96 := ic_rg v7
                              have rg97 := ic_rg v10
                              refine Ex.loop (fun v => ((0 ≤ (Int32.toInt v2) ∧ (Int32.toInt v2) ≤ 11)) ∧ ((0 ≤ (Int32.toInt v4) ∧ (Int32.toInt v4) ≤ 5)) ∧ ((1 ≤ (Int32.toInt v5))) ∧ ((0 ≤ (Int32.toInt v7) ∧ (Int32.toInt v7) ≤ 2147483646)) ∧ ((0 ≤ (Int32.toInt (v.1)) ∧ (Int32.toInt (v.1)) ≤ 12)) ∧ (zI MT (v.2.1)) ∧ (mJ (v.2.1)) ∧ ((v.2.1) 0 18 = g0 0 18) ∧ ((v.2.1) 0 2 = g0 0 2)) (fun v => 13 - (Int32.toInt (v.1))) (by omega) (by show 13 - (Int32.toInt v10) < (fu : Int); omega) ⟨hb_v2, hb_v4, hb_v5, hb_v7, hb_v10, hI, hJ, k0_0, k0_1⟩ (fun k256 v hv ih256 => ?_)
                              obtain ⟨v10, g, L⟩ := v
                              obtain ⟨hb_v2, hb_v4, hb_v5, hb_v7, hb_v10, hI, hJ, k0_0, k0_1⟩ := hv
                              have hb_v2 : (0 ≤ (Int32.toInt v2) ∧ (Int32.toInt v2) ≤ 11) := hb_v2
                              have hb_v4 : (0 ≤ (Int32.toInt v4) ∧ (Int32.toInt v4) ≤ 5) := hb_v4
                              have hb_v5 : (1 ≤ (Int32.toInt v5)) := hb_v5
                              have hb_v7 : (0 ≤ (Int32.toInt v7) ∧ (Int32.toInt v7) ≤ 2147483646) := hb_v7
                              have hb_v10 : (0 ≤ (Int32.toInt v10) ∧ (Int32.toInt v10) ≤ 12) := hb_v10
                              have hI : zI MT g := hI
                              have hJ : mJ g := hJ
                              have k0_0 : g 0 18 = g0 0 18 := k0_0
                              have k0_1 : g 0 2 = g0 0 2 := k0_1
                              have ih256 : ∀ v' : Int32 × (Nat → Nat → Int32) × (Nat → Nat → Int64), (((0 ≤ (Int32.toInt v2) ∧ (Int32.toInt v2) ≤ 11)) ∧ ((0 ≤ (Int32.toInt v4) ∧ (Int32.toInt v4) ≤ 5)) ∧ ((1 ≤ (Int32.toInt v5))) ∧ ((0 ≤ (Int32.toInt v7) ∧ (Int32.toInt v7) ≤ 2147483646)) ∧ ((0 ≤ (Int32.toInt (v'.1)) ∧ (Int32.toInt (v'.1)) ≤ 12)) ∧ (zI MT (v'.2.1)) ∧ (mJ (v'.2.1)) ∧ ((v'.2.1) 0 18 = g0 0 18) ∧ ((v'.2.1) 0 2 = g0 0 2)) → 13 - (Int32.toInt (v'.1)) < 13 - (Int32.toInt v10) → 0 < 13 - (Int32.toInt v10) → Ex (k256 v') (fun (r : Int32) (g1 : Nat → Nat → Int32) (L1 : Nat → Nat → Int64) => zI MT g1 ∧ mJ g1 ∧ g1 0 18 = g0 0 18 ∧ g1 0 2 = g0 0 2) := ih256
                              show Ex (fX12_gaps_s256 fu k152 v2 v3 v4 v5 v6 v7 k256 v10 g L) (fun (r : Int32) (g1 : Nat → Nat → Int32) (L1 : Nat → Nat → Int64) => zI MT g1 ∧ mJ g1 ∧ g1 0 18 = g0 0 18 ∧ g1 0 2 = g0 0 2)
                              unfold fX12_gaps_s256
                              refine Ex.ite (fun c98 => ?_) (fun c98 => ?_)
                              ·
                                have rg99 := ic_rg v10
                                have c98 := icc_le (m := 12) (n := (Int32.toInt v10)) (by decide) rfl c98
                                exact J286 v6 g L (by omega) (by omega) (by omega) (by omega) hI hJ k0_0 k0_1
                              ·
                                have rg100 := ic_rg v10
                                have c98 := icc_nle (m := 12) (n := (Int32.toInt v10)) (by decide) rfl c98
                                generalize z101q : (12 + v10) = z101
                                have e102 : (Int32.toInt z101) = 12 + (Int32.toInt v10) := by rw [← z101q]; exact ic_addc (by decide) rfl (by omega) (by omega)
                                refine Ex.ck (by omega) (by omega) ?_
                                refine Ex.ck (by omega) (by omega) ?_
                                refine Ex.sti (hI.updN rfl) (fun g103 g103e hI => ?_)
                                have k0_0 : g103 0 18 = g0 0 18 := by rw [g103e]; exact k0_0
                                have k0_1 : g103 0 2 = g0 0 2 := by rw [g103e]; exact k0_1
                                have hJ : mJ g103 := by rw [g103e]; exact mJ.upd hJ rfl
                                generalize z104q : (v10 + 1) = z104
                                have e105 : (Int32.toInt z104) = (Int32.toInt v10) + 1 := by rw [← z104q]; exact ic_addc rfl (by decide) (by omega) (by omega)
                                exact ih256 (z104, g103, L) ⟨(show (0 ≤ (Int32.toInt v2) ∧ (Int32.toInt v2) ≤ 11) from by omega), (show (0 ≤ (Int32.toInt v4) ∧ (Int32.toInt v4) ≤ 5) from by omega), (show (1 ≤ (Int32.toInt v5)) from by omega), (show (0 ≤ (Int32.toInt v7) ∧ (Int32.toInt v7) ≤ 2147483646) from by omega), (show (0 ≤ (Int32.toInt z104) ∧ (Int32.toInt z104) ≤ 12) from by omega), hI, hJ, k0_0, k0_1⟩ (by show 13 - (Int32.toInt z104) < _; omega) (by omega)
                            exact lp256 v8 0 g84 L85 (by omega) (by omega) (by omega) (by omega) (by decide) hI hJ k0_0 k0_1
                          ·
                            have rg106 := ic_rg x83
                            have rg107 := ic_rg v3
                            have c88 := icc_nle (m := (Int32.toInt x83)) (n := (Int32.toInt v3)) rfl rfl c88
                            exact J286 v6 g84 L85 (by omega) (by omega) (by omega) (by omega) hI hJ k0_0 k0_1
                        refine Ex.ite (fun c108 => ?_) (fun c108 => ?_)
                        ·
                          have rg109 := ic_rg v6
                          have c108 := icc_eq (m := (Int32.toInt v6)) (n := (-1)) rfl (by decide) c108
                          exact J233 v8 g L (by omega) (by omega) (by omega) (by omega) (by omega) hI hJ k0_0 k0_1
                        ·
                          have rg110 := ic_rg v6
                          have c108 := icc_neq (m := (Int32.toInt v6)) (n := (-1)) rfl (by decide) c108
                          refine Ex.ite (fun c111 => ?_) (fun c111 => ?_)
                          ·
                            have rg112 := ic_rg v8
                            have rg113 := ic_rg v6
                            have c111 := icc_lt (m := (Int32.toInt v8)) (n := (Int32.toInt v6)) rfl rfl c111
                            exact J233 v8 g L (by omega) (by omega) (by omega) (by omega) (by omega) hI hJ k0_0 k0_1
                          ·
                            have rg114 := ic_rg v8
                            have rg115 := ic_rg v6
                            have c111 := icc_nlt (m := (Int32.toInt v8)) (n := (Int32.toInt v6)) rfl rfl c111
                            exact J286 v6 g L (by omega) (by omega) (by omega) (by omega) hI hJ k0_0 k0_1
                      ·
                        have rg116 := ic_rg v10
                        have c74 := icc_nlt (m := (Int32.toInt v10)) (n := 0) rfl (by decide) c74
                        refine Ex.ck (by omega) (by omega) ?_
                        have b117 : 0 ≤ (Int32.toInt (g 40 (Int32.toNatClampNeg v10))) ∧ (Int32.toInt (g 40 (Int32.toNatClampNeg v10))) ≤ 11 := hI 40 _ 0 11 rfl
                        generalize z118q : (12 + (g 40 (Int32.toNatClampNeg v10))) = z118
                        have e119 : (Int32.toInt z118) = 12 + (Int32.toInt (g 40 (Int32.toNatClampNeg v10))) := by rw [← z118q]; exact ic_addc (by decide) rfl (by omega) (by omega)
                        refine Ex.cnz (by decide) ?_
                        generalize z120q : (v9 - v9 / 5 * 5) = z120
                        refine Ex.ck (by omega) (by omega) ?_
                        refine Ex.sti (hI.updN rfl) (fun g121 g121e hI => ?_)
                        have k0_0 : g121 0 18 = g0 0 18 := by rw [g121e]; exact k0_0
                        have k0_1 : g121 0 2 = g0 0 2 := by rw [g121e]; exact k0_1
                        have hJ : mJ g121 := by rw [g121e]; exact mJ.upd hJ rfl
                        refine Ex.cnz (by decide) ?_
                        generalize z122q : (v8 + z120) = z122
                        refine Ex.lti (fun x123 x123e x123i => ?_)
                        refine Ex.cnz (by decide) ?_
                        generalize z124q : (v9 / 5) = z124
                        refine Ex.lti (fun x125 x125e x125i => ?_)
                        generalize z126q : (v10 + (-1)) = z126
                        have e127 : (Int32.toInt z126) = (Int32.toInt v10) + (-1) := by rw [← z126q]; exact ic_addc rfl (by decide) (by omega) (by omega)
                        exact ih172 (x123, x125, z126, g121, L) ⟨(show (0 ≤ (Int32.toInt v2) ∧ (Int32.toInt v2) ≤ 11) from by omega), (show (0 ≤ (Int32.toInt v4) ∧ (Int32.toInt v4) ≤ 5) from by omega), (show (1 ≤ (Int32.toInt v5)) from by omega), (show (0 ≤ (Int32.toInt v7) ∧ (Int32.toInt v7) ≤ 2147483646) from by omega), (show ((-1) ≤ (Int32.toInt z126) ∧ (Int32.toInt z126) ≤ 4) from by omega), hI, hJ, k0_0, k0_1⟩ (by show (Int32.toInt z126) - (-2) < _; omega) (by omega)
                    exact lp172 0 v7 x64 g L (by omega) (by omega) (by omega) (by omega) (by omega) hI hJ k0_0 k0_1
                exact lp152 v2 v3 v4 v5 (-1) 0 g L (by omega) (by omega) (by decide) hI hJ k0_0 k0_1
              ·
                have rg128 := ic_rg v6
                have rg129 := ic_rg v4
                have c34 := icc_nle (m := (Int32.toInt v4)) (n := (Int32.toInt v6)) rfl rfl c34
                generalize z130q : (v5 * 5) = z130
                refine Ex.lti (fun x131 x131e x131i => ?_)
                generalize z132q : (v6 + 1) = z132
                have e133 : (Int32.toInt z132) = (Int32.toInt v6) + 1 := by rw [← z132q]; exact ic_addc rfl (by decide) (by omega) (by omega)
                exact ih127 (x131, z132, g, L) ⟨(show (0 ≤ (Int32.toInt v2) ∧ (Int32.toInt v2) ≤ 11) from by omega), (show (0 ≤ (Int32.toInt v4) ∧ (Int32.toInt v4) ≤ 5) from by omega), (show (0 ≤ (Int32.toInt z132) ∧ (Int32.toInt z132) ≤ 5) from by omega), hI, hJ, k0_0, k0_1⟩ (by show 6 - (Int32.toInt z132) < _; omega) (by omega)
            exact lp127 v2 v3 v4 1 0 g L (by omega) (by omega) (by decide) hI hJ k0_0 k0_1
          ·
            have rg134 := ic_rg v5
            have c27 := icc_nle (m := 12) (n := (Int32.toInt v5)) (by decide) rfl c27
            generalize z135q : (12 + v5) = z135
            have e136 : (Int32.toInt z135) = 12 + (Int32.toInt v5) := by rw [← z135q]; exact ic_addc (by decide) rfl (by omega) (by omega)
            refine Ex.ck (by omega) (by omega) ?_
            refine Ex.ck (by omega) (by omega) ?_
            refine Ex.sti (hI.updN rfl) (fun g137 g137e hI => ?_)
            have k0_0 : g137 0 18 = g0 0 18 := by rw [g137e]; exact k0_0
            have k0_1 : g137 0 2 = g0 0 2 := by rw [g137e]; exact k0_1
            have hJ : mJ g137 := by rw [g137e]; exact mJ.upd hJ rfl
            generalize z138q : ((v1 : Int32) >>> ((v5 : Int32) &&& 31) : Int32) = z138
            generalize z139q : (z138 &&& 1) = z139
            have b140 : 0 ≤ (Int32.toInt z139) ∧ (Int32.toInt z139) ≤ 1 := by rw [← z139q]; exact ic_and1 _
            have hm_ : pb1 v1 v5 = (Int32.toInt z139) := by unfold pb1; rw [z138q, z139q]
            have J115 : ∀ (v4 : Int32) (g : Nat → Nat → Int32) (L : Nat → Nat → Int64), (0 ≤ (Int32.toInt v2) ∧ (Int32.toInt v2) ≤ 11) → (0 ≤ (Int32.toInt v4) ∧ (Int32.toInt v4) ≤ 5) → (0 ≤ (Int32.toInt v5) ∧ (Int32.toInt v5) ≤ 11) → ((Int32.toInt v4) = pbs v1 (Int32.toNatClampNeg v5) + pb1 v1 v5) → (pbs v1 12 ≤ 5) → zI MT g → mJ g → g 0 18 = g0 0 18 → g 0 2 = g0 0 2 → Ex (fX12_gaps_p115 fu k67 v1 v2 v3 v4 v5 g L) (fun (r : Int32) (g1 : Nat → Nat → Int32) (L1 : Nat → Nat → Int64) => zI MT g1 ∧ mJ g1 ∧ g1 0 18 = g0 0 18 ∧ g1 0 2 = g0 0 2) := by
              intro v4 g L hb_v2 hb_v4 hb_v5 hn_0 hn_1 hI hJ k0_0 k0_1
              unfold fX12_gaps_p115
              generalize z141q : (v5 + 1) = z141
              have e142 : (Int32.toInt z141) = (Int32.toInt v5) + 1 := by rw [← z141q]; exact ic_addc rfl (by decide) (by omega) (by omega)
              have hn_ : (Int32.toNatClampNeg z141) = (Int32.toNatClampNeg v5) + 1 := by rw [nc, nc]; omega
              have hm_ : pbs v1 (Int32.toNatClampNeg z141) = pbs v1 (Int32.toNatClampNeg v5) + pb1 v1 v5 := by rw [hn_]; exact pbs_succ (by omega)
              clear hn_
              exact ih67 (v4, z141, g, L) ⟨(show (0 ≤ (Int32.toInt v2) ∧ (Int32.toInt v2) ≤ 11) from by omega), (show (0 ≤ (Int32.toInt v4) ∧ (Int32.toInt v4) ≤ 5) from by omega), (show (0 ≤ (Int32.toInt z141) ∧ (Int32.toInt z141) ≤ 12) from by omega), (show ((Int32.toInt v4) = pbs v1 (Int32.toNatClampNeg z141)) from by omega), (show (pbs v1 12 ≤ 5) from by omega), hI, hJ, k0_0, k0_1⟩ (by show 13 - (Int32.toInt z141) < _; omega) (by omega)
            refine Ex.ite (fun c143 => ?_) (fun c143 => ?_)
            ·
              have rg144 := ic_rg z139
              have c143 := icc_eq (m := (Int32.toInt z139)) (n := 0) rfl (by decide) c143
              exact J115 v4 g137 L (by omega) (by omega) (by omega) (by omega) (by omega) hI hJ k0_0 k0_1
            ·
              have rg145 := ic_rg z139
              have c143 := icc_neq (m := (Int32.toInt z139)) (n := 0) rfl (by decide) c143
              have hm_ := pbs_succ (s := v1) (v := v5) (by omega)
              have hm2_ := pbs_le (s := v1) (k := (Int32.toNatClampNeg v5) + 1) (by rw [nc]; omega)
              refine Ex.ck (by omega) (by omega) ?_
              refine Ex.sti (hI.upd rfl (by omega) (by omega)) (fun g146 g146e hI => ?_)
              have k0_0 : g146 0 18 = g0 0 18 := by rw [g146e]; exact k0_0
              have k0_1 : g146 0 2 = g0 0 2 := by rw [g146e]; exact k0_1
              have hJ : mJ g146 := by rw [g146e]; exact mJ.upd hJ rfl
              generalize z147q : (v4 + 1) = z147
              have e148 : (Int32.toInt z147) = (Int32.toInt v4) + 1 := by rw [← z147q]; exact ic_addc rfl (by decide) (by omega) (by omega)
              exact J115 z147 g146 L (by omega) (by omega) (by omega) (by omega) (by omega) hI hJ k0_0 k0_1
        have hc_ : (0 : Int32).toInt = 0 := by decide
        exact lp67 v1 v2 v3 0 0 g13 L14 (by omega) (by decide) (by decide) (by omega) (by omega) hI hJ k0_0 k0_1
    have J51 : ∀ (v1 : Int32) (v2 : Int32) (v3 : Int32) (g : Nat → Nat → Int32) (L : Nat → Nat → Int64), (0 ≤ (Int32.toInt v2) ∧ (Int32.toInt v2) ≤ 11) → zI MT g → mJ g → g 0 18 = g0 0 18 → g 0 2 = g0 0 2 → Ex (fX12_gaps_p51 fu v1 v2 v3 g L) (fun (r : Int32) (g1 : Nat → Nat → Int32) (L1 : Nat → Nat → Int64) => zI MT g1 ∧ mJ g1 ∧ g1 0 18 = g0 0 18 ∧ g1 0 2 = g0 0 2) := by
      intro v1 v2 v3 g L hb_v2 hI hJ k0_0 k0_1
      unfold fX12_gaps_p51
      have hc_ : (0 : Int32).toInt = 0 := by decide
      exact J52 v1 v2 v3 0 g L (by omega) (by decide) (by omega) hI hJ k0_0 k0_1
    refine Ex.ite (fun c149 => ?_) (fun c149 => ?_)
    ·
      have rg150 := ic_rg p1
      have c149 := icc_lt (m := (Int32.toInt p1)) (n := 0) rfl (by decide) c149
      exact J51 p1 p2 p3 g3 L4 (by omega) hI hJ k0_0 k0_1
    ·
      have rg151 := ic_rg p1
      have c149 := icc_nlt (m := (Int32.toInt p1)) (n := 0) rfl (by decide) c149
      have b152 : 0 ≤ (Int32.toInt (g3 0 1)) ∧ (Int32.toInt (g3 0 1)) ≤ 12 := hI 0 1 0 12 rfl
      generalize z153q : ((1 : Int32) <<< (((g3 0 1) : Int32) &&& 31) : Int32) = z153
      refine Ex.ite (fun c154 => ?_) (fun c154 => ?_)
      ·
        have rg155 := ic_rg p1
        have rg156 := ic_rg z153
        have c154 := icc_le (m := (Int32.toInt z153)) (n := (Int32.toInt p1)) rfl rfl c154
        exact J51 p1 p2 p3 g3 L4 (by omega) hI hJ k0_0 k0_1
      ·
        have rg157 := ic_rg p1
        have rg158 := ic_rg z153
        have c154 := icc_nle (m := (Int32.toInt z153)) (n := (Int32.toInt p1)) rfl rfl c154
        refine Ex.cb (tX12_bits fu hfu p1 g3 L4 hI hJ) (fun x159 g160 L161 hq163 => ?_)
        obtain ⟨hI, hJ, kk0, kk1, lp0_⟩ := hq163
        have lp164 : (Int32.toInt x159) = pbs p1 12 := lp0_
        have hI : zI MT g160 := hI
        have hJ : mJ g160 := hJ
        have k0_0 : g160 0 18 = g0 0 18 := kk0.trans k0_0
        have k0_1 : g160 0 2 = g0 0 2 := kk1.trans k0_1
        refine Ex.ite (fun c165 => ?_) (fun c165 => ?_)
        ·
          have rg166 := ic_rg x159
          have c165 := icc_lt (m := 5) (n := (Int32.toInt x159)) (by decide) rfl c165
          exact J51 p1 p2 p3 g160 L161 (by omega) hI hJ k0_0 k0_1
        ·
          have rg167 := ic_rg x159
          have c165 := icc_nlt (m := 5) (n := (Int32.toInt x159)) (by decide) rfl c165
          refine Ex.cb (sX12_within fu hfu p3 0 999 g160 L161 hI hJ) (fun x168 g169 L170 hq172 => ?_)
          obtain ⟨hI, hJ, kk0, kk1, kk2, kk3, kk4, rb_, ip0⟩ := hq172
          have b173 : 0 ≤ (Int32.toInt x168) ∧ (Int32.toInt x168) ≤ 1 := rb_
          have ip174 : (Int32.toInt x168) = 1 → 0 ≤ (Int32.toInt p3) ∧ (Int32.toInt p3) ≤ 999 := ip0
          have hI : zI MT g169 := hI
          have hJ : mJ g169 := hJ
          have k0_0 : g169 0 18 = g0 0 18 := kk3.trans k0_0
          have k0_1 : g169 0 2 = g0 0 2 := kk4.trans k0_1
          refine Ex.ite (fun c175 => ?_) (fun c175 => ?_)
          ·
            have rg176 := ic_rg x168
            have c175 := icc_eq (m := (Int32.toInt x168)) (n := 0) rfl (by decide) c175
            exact J51 p1 p2 p3 g169 L170 (by omega) hI hJ k0_0 k0_1
          ·
            have rg177 := ic_rg x168
            have c175 := icc_neq (m := (Int32.toInt x168)) (n := 0) rfl (by decide) c175
            have hc_ : (1 : Int32).toInt = 1 := by decide
            exact J52 p1 p2 p3 1 g169 L170 (by omega) (by decide) (by omega) hI hJ k0_0 k0_1
end
section
/-! ===== the class's parser ===== -/
def pJ (g : Nat → Nat → Int32) : Prop := (g 5 4).toInt = 3 → (g 5 5).toInt ≤ 699
def pSup (k j : Nat) : Bool := match k with
  | 5 => (match j with | 4 => true | 5 => true | _ => false)
  | _ => false
theorem pJ.upd {g : Nat → Nat → Int32} {k j : Nat} {x : Int32} (hJ : pJ g) (hs : pSup k j = false) : pJ (upd2 g k j x) := by
  have e : ∀ j', pSup 5 j' = true → upd2 g k j x 5 j' = g 5 j' := fun j' h' => by
    by_cases hk : 5 = k
    · subst hk
      by_cases hj : j' = j
      · subst hj; rw [hs] at h'; exact nomatch h'
      · exact upd2_nj hj
    · exact upd2_nk hk
  unfold pJ
  rw [e 4 rfl, e 5 rfl]; exact hJ
theorem pJ.updn {g : Nat → Nat → Int32} {k j : Nat} {x : Int32} (hJ : pJ g) (hs : k ≠ 5) : pJ (upd2 g k j x) := by
  unfold pJ
  rw [upd2_nk (Ne.symm hs), upd2_nk (Ne.symm hs)]; exact hJ
theorem pJ.kind {g : Nat → Nat → Int32} {x : Int32} (h : x.toInt ≠ 3) : pJ (upd2 g 5 4 x) := fun h' => absurd (show x.toInt = 3 from h') h
set_option maxHeartbeats 4000000 in
theorem uX6_kindOf (fu : Nat) (p1 : Int32) (g0 : Nat → Nat → Int32) (L0 : Nat → Nat → Int64) : Ex (fX6_kindOf fu p1 g0 L0) (fun (r : Int32) g1 L1 => g1 = g0 ∧ (1 ≤ r.toInt ∧ r.toInt ≤ 4) ∧ (r.toInt = 1 → 48 ≤ p1.toInt ∧ p1.toInt ≤ 57)) := by
  have e2 : Ex (some ((2 : Int32), (g0, L0))) (fun (r : Int32) g1 L1 => g1 = g0 ∧ (1 ≤ r.toInt ∧ r.toInt ≤ 4) ∧ (r.toInt = 1 → 48 ≤ p1.toInt ∧ p1.toInt ≤ 57)) := Ex.ret ⟨rfl, by decide, fun h => absurd h (by decide)⟩
  have e3 : Ex (some ((3 : Int32), (g0, L0))) (fun (r : Int32) g1 L1 => g1 = g0 ∧ (1 ≤ r.toInt ∧ r.toInt ≤ 4) ∧ (r.toInt = 1 → 48 ≤ p1.toInt ∧ p1.toInt ≤ 57)) := Ex.ret ⟨rfl, by decide, fun h => absurd h (by decide)⟩
  have e4 : Ex (some ((4 : Int32), (g0, L0))) (fun (r : Int32) g1 L1 => g1 = g0 ∧ (1 ≤ r.toInt ∧ r.toInt ≤ 4) ∧ (r.toInt = 1 → 48 ≤ p1.toInt ∧ p1.toInt ≤ 57)) := Ex.ret ⟨rfl, by decide, fun h => absurd h (by decide)⟩
  have e27 : Ex (fX6_kindOf_p28 fu p1 g0 L0) (fun (r : Int32) g1 L1 => g1 = g0 ∧ (1 ≤ r.toInt ∧ r.toInt ≤ 4) ∧ (r.toInt = 1 → 48 ≤ p1.toInt ∧ p1.toInt ≤ 57)) := by
    unfold fX6_kindOf_p28
    repeat' (apply Ex.ite <;> intro)
    all_goals first | exact e3 | exact e4
  have e14 : Ex (fX6_kindOf_p14 fu p1 g0 L0) (fun (r : Int32) g1 L1 => g1 = g0 ∧ (1 ≤ r.toInt ∧ r.toInt ≤ 4) ∧ (r.toInt = 1 → 48 ≤ p1.toInt ∧ p1.toInt ≤ 57)) := by
    unfold fX6_kindOf_p14
    refine Ex.ite (fun _ => e27) (fun c1 => Ex.ite (fun _ => e27) (fun c2 => ?_))
    have c1 := icc_nlt (m := p1.toInt) (n := 48) rfl (by decide) c1
    have c2 := icc_nlt (m := 57) (n := p1.toInt) (by decide) rfl c2
    exact Ex.ret ⟨rfl, by decide, fun _ => ⟨c1, c2⟩⟩
  unfold fX6_kindOf
  exact Ex.ite (fun _ => e14) (fun _ => Ex.ite (fun _ => e14) (fun _ => e2))
abbrev PQ (g0 g1 : Nat → Nat → Int32) : Prop := zI XT g1 ∧ pJ g1 ∧ g1 2 2 = g0 2 2 ∧ g1 0 13 = g0 0 13
set_option maxHeartbeats 4000000 in
theorem sX6_advance_5 (fu : Nat) (hfu : 1180591620717411303424 ≤ fu) (g0 : Nat → Nat → Int32) (L0 : Nat → Nat → Int64) (hI : zI XT g0) (hJ : pJ g0) : Ex (fX6_advance_5 fu g0 L0) (fun (r : Unit) g1 L1 => PQ g0 g1) := by
  have fin : ∀ (g : Nat → Nat → Int32) (L : Nat → Nat → Int64), zI XT g → pJ g → (∀ k, k ≠ 5 → g k = g0 k) → Ex (some ((), (g, L))) (fun (r : Unit) g1 L1 => PQ g0 g1) := fun g L h1 h2 h3 => Ex.ret ⟨h1, h2, by rw [h3 2 (by decide)], by rw [h3 0 (by decide)]⟩
  have fk : ∀ (g g1 : Nat → Nat → Int32) (j : Nat) (x : Int32), g1 = upd2 g 5 j x → (∀ k, k ≠ 5 → g k = g0 k) → ∀ k, k ≠ 5 → g1 k = g0 k := fun g g1 j x e h k hk => by rw [e]; funext i; rw [upd2_nk hk, h k hk]
  -- one more sign
  have P123 : ∀ (g : Nat → Nat → Int32) (L : Nat → Nat → Int64), zI XT g → pJ g → (∀ k, k ≠ 5 → g k = g0 k) → (g 5 3).toInt < (g 5 2).toInt → Ex (fX6_advance_5_p123 fu g L) (fun (r : Unit) g1 L1 => PQ g0 g1) := by
    intro g L hI hJ hF hn
    have h2 := hI 5 2 0 700 rfl
    have h3 := hI 5 3 0 700 rfl
    unfold fX6_advance_5_p123
    generalize hw : (g 5 3) + 1 = w
    have ew : w.toInt = (g 5 3).toInt + 1 := by rw [← hw]; exact ic_addc rfl (by decide) (by omega) (by omega)
    refine Ex.sti (hI.upd (lo := 0) (hi := 700) rfl (by omega) (by omega)) (fun g1 g1e hI => ?_)
    exact fin g1 L hI (by rw [g1e]; exact hJ.upd rfl) (fk g g1 3 w g1e hF)
  -- the rest of a word or of a number
  have P134 : ∀ (g : Nat → Nat → Int32) (L : Nat → Nat → Int64), zI XT g → (∀ k, k ≠ 5 → g k = g0 k) → (g 5 4).toInt ≠ 3 → (g 5 5).toInt = (g 5 3).toInt → (g 5 6).toInt = 0 → Ex (fX6_advance_5_l134 fu g L) (fun (r : Unit) g1 L1 => PQ g0 g1) := by
    intro g L hI hF hk hp hnum
    have h2 := hI 5 2 0 700 rfl
    have h3 := hI 5 3 0 700 rfl
    unfold fX6_advance_5_l134
    refine Ex.loop (α := (Nat → Nat → Int32) × (Nat → Nat → Int64)) (fun v => zI XT v.1 ∧ (∀ k, k ≠ 5 → v.1 k = g0 k) ∧ (v.1 5 4).toInt ≠ 3 ∧ (v.1 5 5).toInt ≤ (v.1 5 3).toInt ∧ ((v.1 5 3).toInt - (v.1 5 5).toInt = 0 → (v.1 5 6).toInt ≤ 0) ∧ ((v.1 5 3).toInt - (v.1 5 5).toInt = 1 → (v.1 5 6).toInt ≤ 9) ∧ ((v.1 5 3).toInt - (v.1 5 5).toInt = 2 → (v.1 5 6).toInt ≤ 99) ∧ ((v.1 5 3).toInt - (v.1 5 5).toInt = 3 → (v.1 5 6).toInt ≤ 999)) (fun v => (v.1 5 2).toInt - (v.1 5 3).toInt) (by omega) (by show (g 5 2).toInt - (g 5 3).toInt < (fu : Int); omega) ⟨hI, hF, hk, (show (g 5 5).toInt ≤ (g 5 3).toInt by omega), (fun _ => (show (g 5 6).toInt ≤ 0 by omega)), (fun _ => (show (g 5 6).toInt ≤ 9 by omega)), (fun _ => (show (g 5 6).toInt ≤ 99 by omega)), (fun _ => (show (g 5 6).toInt ≤ 999 by omega))⟩ (fun k134 v hv ih => ?_)
    clear hI hF hk hp hnum h2 h3 g L
    obtain ⟨g, L⟩ := v
    obtain ⟨hI, hF, hk, hpl, d0, d1, d2, d3⟩ := hv
    have hI : zI XT g := hI
    have hF : ∀ k, k ≠ 5 → g k = g0 k := hF
    have hk : (g 5 4).toInt ≠ 3 := hk
    have hpl : (g 5 5).toInt ≤ (g 5 3).toInt := hpl
    have d0 : (g 5 3).toInt - (g 5 5).toInt = 0 → (g 5 6).toInt ≤ 0 := d0
    have d1 : (g 5 3).toInt - (g 5 5).toInt = 1 → (g 5 6).toInt ≤ 9 := d1
    have d2 : (g 5 3).toInt - (g 5 5).toInt = 2 → (g 5 6).toInt ≤ 99 := d2
    have d3 : (g 5 3).toInt - (g 5 5).toInt = 3 → (g 5 6).toInt ≤ 999 := d3
    have h2 := hI 5 2 0 700 rfl
    have h3 := hI 5 3 0 700 rfl
    have h5 := hI 5 5 0 700 rfl
    have h6 := hI 5 6 0 9999 rfl
    have hJ : pJ g := fun h => absurd h hk
    show Ex (fX6_advance_5_s134 fu k134 g L) _
    unfold fX6_advance_5_s134
    refine Ex.ite (fun _ => fin g L hI hJ hF) (fun c => ?_)
    have c := icc_nle (m := (g 5 2).toInt) (n := (g 5 3).toInt) rfl rfl c
    refine Ex.ck (by omega) (by omega) ?_
    refine Ex.cb (uX6_kindOf fu _ g L) (fun x14 g15 L16 hq => ?_)
    obtain ⟨hg, hx, hd⟩ := hq
    subst hg
    -- the next sign
    have P209 : ∀ (g1 : Nat → Nat → Int32), zI XT g1 → (∀ k, k ≠ 5 → g1 k = g0 k) → g1 5 2 = g15 5 2 → g1 5 3 = g15 5 3 → g1 5 4 = g15 5 4 → g1 5 5 = g15 5 5 → ((g15 5 3).toInt - (g15 5 5).toInt = 0 → (g1 5 6).toInt ≤ 9) → ((g15 5 3).toInt - (g15 5 5).toInt = 1 → (g1 5 6).toInt ≤ 99) → ((g15 5 3).toInt - (g15 5 5).toInt = 2 → (g1 5 6).toInt ≤ 999) → Ex (fX6_advance_5_p209 fu k134 g1 L16) (fun (r : Unit) g1 L1 => PQ g0 g1) := by
      intro g1 hI hF q2 q3 q4 q5 f0 f1 f2
      unfold fX6_advance_5_p209
      rw [q3]
      generalize hw : (g15 5 3) + 1 = w
      have ew : w.toInt = (g15 5 3).toInt + 1 := by rw [← hw]; exact ic_addc rfl (by decide) (by omega) (by omega)
      refine Ex.sti (hI.upd (lo := 0) (hi := 700) rfl (by omega) (by omega)) (fun g19 g19e hI => ?_)
      have r2 : g19 5 2 = g15 5 2 := by rw [g19e]; exact q2
      have r3 : g19 5 3 = w := by rw [g19e]; exact upd2_at
      have r4 : g19 5 4 = g15 5 4 := by rw [g19e]; exact q4
      have r5 : g19 5 5 = g15 5 5 := by rw [g19e]; exact q5
      have r6 : g19 5 6 = g1 5 6 := by rw [g19e]; rfl
      refine ih (g19, L16) ⟨hI, fk g1 g19 3 w g19e hF, ?_, ?_, ?_, ?_, ?_, ?_⟩ ?_ ?_
      · show (g19 5 4).toInt ≠ 3
        rw [r4]; exact hk
      · show (g19 5 5).toInt ≤ (g19 5 3).toInt
        rw [r5, r3]; omega
      · show (g19 5 3).toInt - (g19 5 5).toInt = 0 → (g19 5 6).toInt ≤ 0
        rw [r5, r3]; omega
      · show (g19 5 3).toInt - (g19 5 5).toInt = 1 → (g19 5 6).toInt ≤ 9
        rw [r5, r3, r6]; omega
      · show (g19 5 3).toInt - (g19 5 5).toInt = 2 → (g19 5 6).toInt ≤ 99
        rw [r5, r3, r6]; omega
      · show (g19 5 3).toInt - (g19 5 5).toInt = 3 → (g19 5 6).toInt ≤ 999
        rw [r5, r3, r6]; omega
      · show (g19 5 2).toInt - (g19 5 3).toInt < (g15 5 2).toInt - (g15 5 3).toInt
        rw [r2, r3]; omega
      · show 0 < (g15 5 2).toInt - (g15 5 3).toInt
        omega
    refine Ex.ite (fun ck_ => ?_) (fun _ => fin g15 L16 hI hJ hF)
    refine Ex.ite (fun c1 => ?_) (fun c1 => ?_)
    · have c1 := icc_eq (m := (g15 5 4).toInt) (n := 1) rfl (by decide) c1
      have ck_ := icc_eq (m := x14.toInt) (n := (g15 5 4).toInt) rfl rfl ck_
      have hd := hd (by omega)
      generalize hz : (g15 5 3) - (g15 5 5) = z
      have ez : z.toInt = (g15 5 3).toInt - (g15 5 5).toInt := by rw [← hz]; exact ic_subc rfl rfl (by omega) (by omega)
      refine Ex.ite (fun c4 => ?_) (fun c4 => ?_)
      · have c4 := icc_le (m := 4) (n := z.toInt) (by decide) rfl c4
        exact P209 g15 hI hF rfl rfl rfl rfl (by omega) (by omega) (by omega)
      · have c4 := icc_nle (m := 4) (n := z.toInt) (by decide) rfl c4
        refine Ex.ck (by omega) (by omega) ?_
        generalize hb : g15 14 (Int32.toNatClampNeg (g15 5 3)) = b at hd ⊢
        generalize hm : (g15 5 6) * 10 = m
        have em : m.toInt = (g15 5 6).toInt * 10 := by rw [← hm]; exact ic_mulc rfl (by decide) (by omega) (by omega)
        generalize hs : m + b = s
        have es : s.toInt = m.toInt + b.toInt := by rw [← hs]; exact ic_addc rfl rfl (by omega) (by omega)
        generalize ht : s - 48 = t
        have et : t.toInt = s.toInt - 48 := by rw [← ht]; exact ic_subc rfl (by decide) (by omega) (by omega)
        refine Ex.sti (hI.upd (lo := 0) (hi := 9999) rfl (by omega) (by omega)) (fun g22 g22e hI => ?_)
        have r6 : g22 5 6 = t := by rw [g22e]; exact upd2_at
        exact P209 g22 hI (fk g15 g22 6 t g22e hF) (by rw [g22e]; rfl) (by rw [g22e]; rfl) (by rw [g22e]; rfl) (by rw [g22e]; rfl) (by rw [r6]; omega) (by rw [r6]; omega) (by rw [r6]; omega)
    · have c1 := icc_neq (m := (g15 5 4).toInt) (n := 1) rfl (by decide) c1
      exact P209 g15 hI hF rfl rfl rfl rfl (by omega) (by omega) (by omega)
  have P61 : ∀ (g : Nat → Nat → Int32) (L : Nat → Nat → Int64), zI XT g → (∀ k, k ≠ 5 → g k = g0 k) → Ex (fX6_advance_5_p61 fu g L) (fun (r : Unit) g1 L1 => PQ g0 g1) := by
    intro g L hI hF
    have h2 := hI 5 2 0 700 rfl
    have h3 := hI 5 3 0 700 rfl
    unfold fX6_advance_5_p61
    refine Ex.sti (hI.upd (lo := 0) (hi := 700) rfl h3.1 h3.2) (fun g2 g2e hI => ?_)
    refine Ex.sti (hI.upd (lo := 0) (hi := 9999) rfl (by decide) (by decide)) (fun g3 g3e hI => ?_)
    have hF3 := fk g2 g3 6 0 g3e (fk g g2 5 _ g2e hF)
    have r2 : g3 5 2 = g 5 2 := by rw [g3e, g2e]; rfl
    have r3 : g3 5 3 = g 5 3 := by rw [g3e, g2e]; rfl
    have r5 : g3 5 5 = g 5 3 := by rw [g3e, g2e]; rfl
    have r6 : g3 5 6 = 0 := by rw [g3e]; rfl
    rw [r2, r3]
    refine Ex.ite (fun c => ?_) (fun c => ?_)
    · have c := icc_lt (m := (g 5 3).toInt) (n := (g 5 2).toInt) rfl rfl c
      refine Ex.ck (by omega) (by omega) ?_
      refine Ex.cb (uX6_kindOf fu _ g3 L) (fun x5 g6 L7 hq => ?_)
      obtain ⟨hg, hx, -⟩ := hq
      subst hg
      refine Ex.sti (hI.updN rfl) (fun g9 g9e hI => ?_)
      have hF9 := fk g6 g9 4 x5 g9e hF3
      have s2 : g9 5 2 = g 5 2 := by rw [g9e]; exact r2
      have s3 : g9 5 3 = g 5 3 := by rw [g9e]; exact r3
      have s4 : g9 5 4 = x5 := by rw [g9e]; exact upd2_at
      have s5 : g9 5 5 = g 5 3 := by rw [g9e]; exact r5
      have s6 : g9 5 6 = 0 := by rw [g9e]; exact r6
      have hJ9 : pJ g9 := fun _ => by rw [s5]; omega
      refine Ex.ite (fun _ => P123 g9 L7 hI hJ9 hF9 (by rw [s2, s3]; exact c)) (fun c3 => ?_)
      have c3 := icc_neq (m := (g9 5 4).toInt) (n := 3) rfl (by decide) c3
      refine Ex.ite (fun _ => P123 g9 L7 hI hJ9 hF9 (by rw [s2, s3]; exact c)) (fun _ => ?_)
      exact P134 g9 L7 hI hF9 c3 (by rw [s5, s3]) (by rw [s6]; decide)
    · refine Ex.sti (hI.updN rfl) (fun g23 g23e hI => ?_)
      exact fin g23 L hI (by rw [g23e]; exact pJ.kind (by decide)) (fk g3 g23 4 0 g23e hF3)
  unfold fX6_advance_5
  refine Ex.ite (fun _ => fin g0 L0 hI hJ (fun _ _ => rfl)) (fun _ => ?_)
  have h2 := hI 5 2 0 700 rfl
  have h3 := hI 5 3 0 700 rfl
  unfold fX6_advance_5_l9
  refine Ex.loop (α := (Nat → Nat → Int32) × (Nat → Nat → Int64)) (fun v => zI XT v.1 ∧ (∀ k, k ≠ 5 → v.1 k = g0 k)) (fun v => (v.1 5 2).toInt - (v.1 5 3).toInt) (by omega) (by show (g0 5 2).toInt - (g0 5 3).toInt < (fu : Int); omega) ⟨hI, fun _ _ => rfl⟩ (fun k9 v hv ih => ?_)
  clear hI hJ h2 h3
  obtain ⟨g, L⟩ := v
  obtain ⟨hI, hF⟩ := hv
  have hI : zI XT g := hI
  have hF : ∀ k, k ≠ 5 → g k = g0 k := hF
  have h2 := hI 5 2 0 700 rfl
  have h3 := hI 5 3 0 700 rfl
  show Ex (fX6_advance_5_s9 fu k9 g L) _
  unfold fX6_advance_5_s9
  refine Ex.ite (fun _ => P61 g L hI hF) (fun c => ?_)
  have c := icc_nle (m := (g 5 2).toInt) (n := (g 5 3).toInt) rfl rfl c
  have P48 : Ex (fX6_advance_5_p48 fu k9 g L) (fun (r : Unit) g1 L1 => PQ g0 g1) := by
    unfold fX6_advance_5_p48
    generalize hw : (g 5 3) + 1 = w
    have ew : w.toInt = (g 5 3).toInt + 1 := by rw [← hw]; exact ic_addc rfl (by decide) (by omega) (by omega)
    refine Ex.sti (hI.upd (lo := 0) (hi := 700) rfl (by omega) (by omega)) (fun g1 g1e hI => ?_)
    have r2 : g1 5 2 = g 5 2 := by rw [g1e]; rfl
    have r3 : g1 5 3 = w := by rw [g1e]; exact upd2_at
    exact ih (g1, L) ⟨hI, fk g g1 3 w g1e hF⟩ (by show (g1 5 2).toInt - (g1 5 3).toInt < (g 5 2).toInt - (g 5 3).toInt; rw [r2, r3]; omega) (by show 0 < (g 5 2).toInt - (g 5 3).toInt; omega)
  refine Ex.ck (by omega) (by omega) (Ex.ite (fun _ => P48) (fun _ => Ex.ck (by omega) (by omega) (Ex.ite (fun _ => P48) (fun _ => P61 g L hI hF))))
end
section
set_option maxHeartbeats 4000000 in
set_option maxRecDepth 100000 in
theorem sX8_clear_4 (fu : Nat) (hfu : 1180591620717411303424 ≤ fu) (g0 : Nat → Nat → Int32) (L0 : Nat → Nat → Int64) (hI : zI XT g0) (hJ : pJ g0) : Ex (fX8_clear_4 fu g0 L0) (fun (r : Unit) (g1 : Nat → Nat → Int32) (L1 : Nat → Nat → Int64) => zI XT g1 ∧ pJ g1 ∧ g1 2 2 = g0 2 2 ∧ g1 0 13 = g0 0 13) := by
  have k0_0 : g0 2 2 = g0 2 2 := rfl
  have k0_1 : g0 0 13 = g0 0 13 := rfl
  unfold fX8_clear_4
  refine Ex.sti (hI.upd rfl (by decide) (by decide)) (fun g1 g1e hI => ?_)
  have k0_0 : g1 2 2 = g0 2 2 := by rw [g1e]; exact k0_0
  have k0_1 : g1 0 13 = g0 0 13 := by rw [g1e]; exact k0_1
  have hJ : pJ g1 := by rw [g1e]; exact pJ.upd hJ rfl
  refine Ex.sti (hI.upd rfl (by decide) (by decide)) (fun g2 g2e hI => ?_)
  have k0_0 : g2 2 2 = g0 2 2 := by rw [g2e]; exact k0_0
  have k0_1 : g2 0 13 = g0 0 13 := by rw [g2e]; exact k0_1
  have hJ : pJ g2 := by rw [g2e]; exact pJ.upd hJ rfl
  exact Ex.ret ⟨hI, hJ, k0_0, k0_1⟩
set_option maxHeartbeats 4000000 in
set_option maxRecDepth 100000 in
theorem sX7_clear_2 (fu : Nat) (hfu : 1180591620717411303424 ≤ fu) (g0 : Nat → Nat → Int32) (L0 : Nat → Nat → Int64) (hI : zI XT g0) (hJ : pJ g0) : Ex (fX7_clear_2 fu g0 L0) (fun (r : Unit) (g1 : Nat → Nat → Int32) (L1 : Nat → Nat → Int64) => zI XT g1 ∧ pJ g1 ∧ g1 0 13 = g0 0 13) := by
  have k0_0 : g0 0 13 = g0 0 13 := rfl
  unfold fX7_clear_2
  refine Ex.cb (sX8_clear_4 fu hfu g0 L0 hI hJ) (fun x1 g2 L3 hq5 => ?_)
  obtain ⟨hI, hJ, kk0, kk1⟩ := hq5
  have hI : zI XT g2 := hI
  have hJ : pJ g2 := hJ
  have k0_0 : g2 0 13 = g0 0 13 := kk1.trans k0_0
  refine Ex.sti (hI.upd rfl (by decide) (by decide)) (fun g6 g6e hI => ?_)
  have k0_0 : g6 0 13 = g0 0 13 := by rw [g6e]; exact k0_0
  have hJ : pJ g6 := by rw [g6e]; exact pJ.upd hJ rfl
  refine Ex.sti (hI.updN rfl) (fun g7 g7e hI => ?_)
  have k0_0 : g7 0 13 = g0 0 13 := by rw [g7e]; exact k0_0
  have hJ : pJ g7 := by rw [g7e]; exact pJ.upd hJ rfl
  refine Ex.sti (hI.updN rfl) (fun g8 g8e hI => ?_)
  have k0_0 : g8 0 13 = g0 0 13 := by rw [g8e]; exact k0_0
  have hJ : pJ g8 := by rw [g8e]; exact pJ.upd hJ rfl
  exact Ex.ret ⟨hI, hJ, k0_0⟩
set_option maxHeartbeats 4000000 in
set_option maxRecDepth 100000 in
theorem sX8_add_4 (fu : Nat) (hfu : 1180591620717411303424 ≤ fu) (p1 : Int32) (g0 : Nat → Nat → Int32) (L0 : Nat → Nat → Int64) (hI : zI XT g0) (hJ : pJ g0) : Ex (fX8_add_4 fu p1 g0 L0) (fun (r : Unit) (g1 : Nat → Nat → Int32) (L1 : Nat → Nat → Int64) => zI XT g1 ∧ pJ g1 ∧ g1 2 2 = g0 2 2 ∧ g1 0 13 = g0 0 13) := by
  have k0_0 : g0 2 2 = g0 2 2 := rfl
  have k0_1 : g0 0 13 = g0 0 13 := rfl
  unfold fX8_add_4
  have b1 : 0 ≤ (Int32.toInt (g0 4 4)) ∧ (Int32.toInt (g0 4 4)) ≤ 700 := hI 4 4 0 700 rfl
  have J32 : ∀ (g : Nat → Nat → Int32) (L : Nat → Nat → Int64), (1 ≤ (Int32.toInt (g 4 4)) ∧ (Int32.toInt (g 4 4)) ≤ 700) → zI XT g → pJ g → g 2 2 = g0 2 2 → g 0 13 = g0 0 13 → Ex (fX8_add_4_p32 fu g L) (fun (r : Unit) (g1 : Nat → Nat → Int32) (L1 : Nat → Nat → Int64) => zI XT g1 ∧ pJ g1 ∧ g1 2 2 = g0 2 2 ∧ g1 0 13 = g0 0 13) := by
    intro g L hw_4_4 hI hJ k0_0 k0_1
    unfold fX8_add_4_p32
    exact Ex.ret ⟨hI, hJ, k0_0, k0_1⟩
  refine Ex.ite (fun c2 => ?_) (fun c2 => ?_)
  ·
    have c2 := icc_le (m := 700) (n := (Int32.toInt (g0 4 4))) (by decide) rfl c2
    exact J32 g0 L0 (by omega) hI hJ k0_0 k0_1
  ·
    have c2 := icc_nle (m := 700) (n := (Int32.toInt (g0 4 4))) (by decide) rfl c2
    have b3 : 0 ≤ (Int32.toInt (g0 4 4)) ∧ (Int32.toInt (g0 4 4)) ≤ 700 := hI 4 4 0 700 rfl
    refine Ex.ck (by omega) (by omega) ?_
    refine Ex.sti (hI.updN rfl) (fun g4 g4e hI => ?_)
    have w5 : (Int32.toInt (g4 4 4)) = (Int32.toInt (g0 4 4)) := by rw [g4e]; rfl
    have k0_0 : g4 2 2 = g0 2 2 := by rw [g4e]; exact k0_0
    have k0_1 : g4 0 13 = g0 0 13 := by rw [g4e]; exact k0_1
    have hJ : pJ g4 := by rw [g4e]; exact pJ.upd hJ rfl
    have b6 : 0 ≤ (Int32.toInt (g4 4 4)) ∧ (Int32.toInt (g4 4 4)) ≤ 700 := hI 4 4 0 700 rfl
    generalize z7q : ((g4 4 4) + 1) = z7
    have e8 : (Int32.toInt z7) = (Int32.toInt (g4 4 4)) + 1 := by rw [← z7q]; exact ic_addc rfl (by decide) (by omega) (by omega)
    refine Ex.sti (hI.upd rfl (by omega) (by omega)) (fun g9 g9e hI => ?_)
    have k0_0 : g9 2 2 = g0 2 2 := by rw [g9e]; exact k0_0
    have k0_1 : g9 0 13 = g0 0 13 := by rw [g9e]; exact k0_1
    have hJ : pJ g9 := by rw [g9e]; exact pJ.upd hJ rfl
    have w10 : (Int32.toInt (g9 4 4)) = (Int32.toInt z7) := by rw [g9e, upd2_at]
    exact J32 g9 L0 (by omega) hI hJ k0_0 k0_1
set_option maxHeartbeats 4000000 in
set_option maxRecDepth 100000 in
theorem sX8_close_4 (fu : Nat) (hfu : 1180591620717411303424 ≤ fu) (g0 : Nat → Nat → Int32) (L0 : Nat → Nat → Int64) (hI : zI XT g0) (hJ : pJ g0) : Ex (fX8_close_4 fu g0 L0) (fun (r : Unit) (g1 : Nat → Nat → Int32) (L1 : Nat → Nat → Int64) => zI XT g1 ∧ pJ g1 ∧ g1 2 2 = g0 2 2 ∧ g1 0 13 = g0 0 13) := by
  have k0_0 : g0 2 2 = g0 2 2 := rfl
  have k0_1 : g0 0 13 = g0 0 13 := rfl
  unfold fX8_close_4
  have b1 : 0 ≤ (Int32.toInt (g0 4 3)) ∧ (Int32.toInt (g0 4 3)) ≤ 4 := hI 4 3 0 4 rfl
  have J31 : ∀ (g : Nat → Nat → Int32) (L : Nat → Nat → Int64), (1 ≤ (Int32.toInt (g 4 3)) ∧ (Int32.toInt (g 4 3)) ≤ 4) → zI XT g → pJ g → g 2 2 = g0 2 2 → g 0 13 = g0 0 13 → Ex (fX8_close_4_p31 fu g L) (fun (r : Unit) (g1 : Nat → Nat → Int32) (L1 : Nat → Nat → Int64) => zI XT g1 ∧ pJ g1 ∧ g1 2 2 = g0 2 2 ∧ g1 0 13 = g0 0 13) := by
    intro g L hw_4_3 hI hJ k0_0 k0_1
    unfold fX8_close_4_p31
    exact Ex.ret ⟨hI, hJ, k0_0, k0_1⟩
  refine Ex.ite (fun c2 => ?_) (fun c2 => ?_)
  ·
    have c2 := icc_le (m := 4) (n := (Int32.toInt (g0 4 3))) (by decide) rfl c2
    exact J31 g0 L0 (by omega) hI hJ k0_0 k0_1
  ·
    have c2 := icc_nle (m := 4) (n := (Int32.toInt (g0 4 3))) (by decide) rfl c2
    have b3 : 0 ≤ (Int32.toInt (g0 4 3)) ∧ (Int32.toInt (g0 4 3)) ≤ 4 := hI 4 3 0 4 rfl
    generalize z4q : ((g0 4 3) + 1) = z4
    have e5 : (Int32.toInt z4) = (Int32.toInt (g0 4 3)) + 1 := by rw [← z4q]; exact ic_addc rfl (by decide) (by omega) (by omega)
    refine Ex.sti (hI.upd rfl (by omega) (by omega)) (fun g6 g6e hI => ?_)
    have k0_0 : g6 2 2 = g0 2 2 := by rw [g6e]; exact k0_0
    have k0_1 : g6 0 13 = g0 0 13 := by rw [g6e]; exact k0_1
    have hJ : pJ g6 := by rw [g6e]; exact pJ.upd hJ rfl
    have w7 : (Int32.toInt (g6 4 3)) = (Int32.toInt z4) := by rw [g6e, upd2_at]
    have b8 : 0 ≤ (Int32.toInt (g6 4 3)) ∧ (Int32.toInt (g6 4 3)) ≤ 4 := hI 4 3 0 4 rfl
    have b9 : 0 ≤ (Int32.toInt (g6 4 4)) ∧ (Int32.toInt (g6 4 4)) ≤ 700 := hI 4 4 0 700 rfl
    refine Ex.ck (by omega) (by omega) ?_
    refine Ex.sti (hI.upd rfl (by omega) (by omega)) (fun g10 g10e hI => ?_)
    have w11 : (Int32.toInt (g10 4 3)) = (Int32.toInt (g6 4 3)) := by rw [g10e]; rfl
    have w12 : (Int32.toInt (g10 4 4)) = (Int32.toInt (g6 4 4)) := by rw [g10e]; rfl
    have k0_0 : g10 2 2 = g0 2 2 := by rw [g10e]; exact k0_0
    have k0_1 : g10 0 13 = g0 0 13 := by rw [g10e]; exact k0_1
    have hJ : pJ g10 := by rw [g10e]; exact pJ.upd hJ rfl
    exact J31 g10 L0 (by omega) hI hJ k0_0 k0_1
set_option maxHeartbeats 4000000 in
set_option maxRecDepth 100000 in
theorem sX5_clear_les (fu : Nat) (hfu : 1180591620717411303424 ≤ fu) (q0_ : Nat) (g0 : Nat → Nat → Int32) (L0 : Nat → Nat → Int64) (hI : zI XT g0) (hJ : pJ g0) (q0_l : 57 ≤ q0_) (q0_h : q0_ < 81) : Ex (fX5_clear_les fu q0_ g0 L0) (fun (r : Unit) (g1 : Nat → Nat → Int32) (L1 : Nat → Nat → Int64) => zI XT g1 ∧ pJ g1 ∧ g1 2 2 = g0 2 2 ∧ g1 0 13 = g0 0 13) := by
  have k0_0 : g0 2 2 = g0 2 2 := rfl
  have k0_1 : g0 0 13 = g0 0 13 := rfl
  unfold fX5_clear_les
  refine Ex.sti (hI.updN (xt_lesN (by omega) (by omega) (by decide))) (fun g1 g1e hI => ?_)
  have k0_0 : g1 2 2 = g0 2 2 := by rw [g1e]; exact (upd2_nk (by omega)).trans k0_0
  have k0_1 : g1 0 13 = g0 0 13 := by rw [g1e]; exact (upd2_nk (by omega)).trans k0_1
  have hJ : pJ g1 := by rw [g1e]; exact pJ.updn hJ (by omega)
  refine Ex.sti (hI.updN (xt_lesN (by omega) (by omega) (by decide))) (fun g2 g2e hI => ?_)
  have k0_0 : g2 2 2 = g0 2 2 := by rw [g2e]; exact (upd2_nk (by omega)).trans k0_0
  have k0_1 : g2 0 13 = g0 0 13 := by rw [g2e]; exact (upd2_nk (by omega)).trans k0_1
  have hJ : pJ g2 := by rw [g2e]; exact pJ.updn hJ (by omega)
  refine Ex.sti (hI.upd (xt_les (by omega) (by omega)) (by decide) (by decide)) (fun g3 g3e hI => ?_)
  have k0_0 : g3 2 2 = g0 2 2 := by rw [g3e]; exact (upd2_nk (by omega)).trans k0_0
  have k0_1 : g3 0 13 = g0 0 13 := by rw [g3e]; exact (upd2_nk (by omega)).trans k0_1
  have hJ : pJ g3 := by rw [g3e]; exact pJ.updn hJ (by omega)
  refine Ex.sti (hI.updN (xt_lesN (by omega) (by omega) (by decide))) (fun g4 g4e hI => ?_)
  have k0_0 : g4 2 2 = g0 2 2 := by rw [g4e]; exact (upd2_nk (by omega)).trans k0_0
  have k0_1 : g4 0 13 = g0 0 13 := by rw [g4e]; exact (upd2_nk (by omega)).trans k0_1
  have hJ : pJ g4 := by rw [g4e]; exact pJ.updn hJ (by omega)
  exact Ex.ret ⟨hI, hJ, k0_0, k0_1⟩
set_option maxHeartbeats 4000000 in
set_option maxRecDepth 100000 in
theorem sX5_waitFor_les (fu : Nat) (hfu : 1180591620717411303424 ≤ fu) (q0_ : Nat) (p1 : Int32) (g0 : Nat → Nat → Int32) (L0 : Nat → Nat → Int64) (hI : zI XT g0) (hJ : pJ g0) (q0_l : 57 ≤ q0_) (q0_h : q0_ < 81) (hp1 : (0 ≤ (Int32.toInt p1) ∧ (Int32.toInt p1) ≤ 11)) : Ex (fX5_waitFor_les fu q0_ p1 g0 L0) (fun (r : Unit) (g1 : Nat → Nat → Int32) (L1 : Nat → Nat → Int64) => zI XT g1 ∧ pJ g1 ∧ g1 2 2 = g0 2 2 ∧ g1 0 13 = g0 0 13) := by
  have k0_0 : g0 2 2 = g0 2 2 := rfl
  have k0_1 : g0 0 13 = g0 0 13 := rfl
  unfold fX5_waitFor_les
  have b1 : 0 ≤ (Int32.toInt (g0 q0_ 1)) ∧ (Int32.toInt (g0 q0_ 1)) ≤ 6 := hI q0_ 1 0 6 (xt_les (by omega) (by omega))
  have J41 : ∀ (g : Nat → Nat → Int32) (L : Nat → Nat → Int64), zI XT g → pJ g → g 2 2 = g0 2 2 → g 0 13 = g0 0 13 → Ex (fX5_waitFor_les_p41 fu g L) (fun (r : Unit) (g1 : Nat → Nat → Int32) (L1 : Nat → Nat → Int64) => zI XT g1 ∧ pJ g1 ∧ g1 2 2 = g0 2 2 ∧ g1 0 13 = g0 0 13) := by
    intro g L hI hJ k0_0 k0_1
    unfold fX5_waitFor_les_p41
    exact Ex.ret ⟨hI, hJ, k0_0, k0_1⟩
  refine Ex.ite (fun c2 => ?_) (fun c2 => ?_)
  ·
    have c2 := icc_le (m := 6) (n := (Int32.toInt (g0 q0_ 1))) (by decide) rfl c2
    exact J41 g0 L0 hI hJ k0_0 k0_1
  ·
    have c2 := icc_nle (m := 6) (n := (Int32.toInt (g0 q0_ 1))) (by decide) rfl c2
    have b3 : 0 ≤ (Int32.toInt (g0 q0_ 1)) ∧ (Int32.toInt (g0 q0_ 1)) ≤ 6 := hI q0_ 1 0 6 (xt_les (by omega) (by omega))
    refine Ex.ck (by omega) (by omega) ?_
    refine Ex.sti (hI.upd (xt_wai (by omega)) (by omega) (by omega)) (fun g4 g4e hI => ?_)
    have k0_0 : g4 2 2 = g0 2 2 := by rw [g4e]; exact (upd2_nk (by omega)).trans k0_0
    have k0_1 : g4 0 13 = g0 0 13 := by rw [g4e]; exact (upd2_nk (by omega)).trans k0_1
    have hJ : pJ g4 := by rw [g4e]; exact pJ.updn hJ (by omega)
    have b5 : 0 ≤ (Int32.toInt (g4 q0_ 1)) ∧ (Int32.toInt (g4 q0_ 1)) ≤ 6 := hI q0_ 1 0 6 (xt_les (by omega) (by omega))
    have hm_ : (Int32.toInt (g4 q0_ 1)) = (Int32.toInt (g0 q0_ 1)) := by rw [g4e, upd2_nk (by omega)]
    generalize z6q : ((g4 q0_ 1) + 1) = z6
    have e7 : (Int32.toInt z6) = (Int32.toInt (g4 q0_ 1)) + 1 := by rw [← z6q]; exact ic_addc rfl (by decide) (by omega) (by omega)
    refine Ex.sti (hI.upd (xt_les (by omega) (by omega)) (by omega) (by omega)) (fun g8 g8e hI => ?_)
    have k0_0 : g8 2 2 = g0 2 2 := by rw [g8e]; exact (upd2_nk (by omega)).trans k0_0
    have k0_1 : g8 0 13 = g0 0 13 := by rw [g8e]; exact (upd2_nk (by omega)).trans k0_1
    have hJ : pJ g8 := by rw [g8e]; exact pJ.updn hJ (by omega)
    generalize z9q : ((1 : Int32) <<< ((p1 : Int32) &&& 31) : Int32) = z9
    generalize z10q : ((g8 q0_ 2) ||| z9) = z10
    refine Ex.sti (hI.updN (xt_lesN (by omega) (by omega) (by decide))) (fun g11 g11e hI => ?_)
    have k0_0 : g11 2 2 = g0 2 2 := by rw [g11e]; exact (upd2_nk (by omega)).trans k0_0
    have k0_1 : g11 0 13 = g0 0 13 := by rw [g11e]; exact (upd2_nk (by omega)).trans k0_1
    have hJ : pJ g11 := by rw [g11e]; exact pJ.updn hJ (by omega)
    exact J41 g11 L0 hI hJ k0_0 k0_1
set_option maxHeartbeats 4000000 in
set_option maxRecDepth 100000 in
theorem sX6_refuse_5 (fu : Nat) (hfu : 1180591620717411303424 ≤ fu) (p1 : Int32) (g0 : Nat → Nat → Int32) (L0 : Nat → Nat → Int64) (hI : zI XT g0) (hJ : pJ g0) : Ex (fX6_refuse_5 fu p1 g0 L0) (fun (r : Unit) (g1 : Nat → Nat → Int32) (L1 : Nat → Nat → Int64) => zI XT g1 ∧ pJ g1 ∧ g1 2 2 = g0 2 2 ∧ g1 0 13 = g0 0 13) := by
  have k0_0 : g0 2 2 = g0 2 2 := rfl
  have k0_1 : g0 0 13 = g0 0 13 := rfl
  unfold fX6_refuse_5
  have J26 : ∀ (g : Nat → Nat → Int32) (L : Nat → Nat → Int64), zI XT g → pJ g → g 2 2 = g0 2 2 → g 0 13 = g0 0 13 → Ex (fX6_refuse_5_p26 fu g L) (fun (r : Unit) (g1 : Nat → Nat → Int32) (L1 : Nat → Nat → Int64) => zI XT g1 ∧ pJ g1 ∧ g1 2 2 = g0 2 2 ∧ g1 0 13 = g0 0 13) := by
    intro g L hI hJ k0_0 k0_1
    unfold fX6_refuse_5_p26
    exact Ex.ret ⟨hI, hJ, k0_0, k0_1⟩
  refine Ex.ite (fun c1 => ?_) (fun c1 => ?_)
  ·
    have c1 := icc_eq (m := (Int32.toInt (g0 5 4))) (n := 5) rfl (by decide) c1
    exact J26 g0 L0 hI hJ k0_0 k0_1
  ·
    have c1 := icc_neq (m := (Int32.toInt (g0 5 4))) (n := 5) rfl (by decide) c1
    refine Ex.sti (hI.updN rfl) (fun g2 g2e hI => ?_)
    have k0_0 : g2 2 2 = g0 2 2 := by rw [g2e]; exact k0_0
    have k0_1 : g2 0 13 = g0 0 13 := by rw [g2e]; exact k0_1
    have hJ : pJ g2 := by rw [g2e]; exact pJ.upd hJ rfl
    have b3 : 0 ≤ (Int32.toInt (g2 5 5)) ∧ (Int32.toInt (g2 5 5)) ≤ 700 := hI 5 5 0 700 rfl
    refine Ex.sti (hI.updN rfl) (fun g4 g4e hI => ?_)
    have k0_0 : g4 2 2 = g0 2 2 := by rw [g4e]; exact k0_0
    have k0_1 : g4 0 13 = g0 0 13 := by rw [g4e]; exact k0_1
    have hJ : pJ g4 := by rw [g4e]; exact pJ.upd hJ rfl
    refine Ex.sti (hI.updN rfl) (fun g5 g5e hI => ?_)
    have k0_0 : g5 2 2 = g0 2 2 := by rw [g5e]; exact k0_0
    have k0_1 : g5 0 13 = g0 0 13 := by rw [g5e]; exact k0_1
    have hJ : pJ g5 := by rw [g5e]; exact pJ.kind (by decide)
    exact J26 g5 L0 hI hJ k0_0 k0_1
set_option maxHeartbeats 4000000 in
set_option maxRecDepth 100000 in
theorem sX6_isTooLong_5 (fu : Nat) (hfu : 1180591620717411303424 ≤ fu) (g0 : Nat → Nat → Int32) (L0 : Nat → Nat → Int64) (hI : zI XT g0) (hJ : pJ g0) : Ex (fX6_isTooLong_5 fu g0 L0) (fun (r : Int32) (g1 : Nat → Nat → Int32) (L1 : Nat → Nat → Int64) => zI XT g1 ∧ pJ g1 ∧ g1 2 2 = g0 2 2 ∧ g1 0 13 = g0 0 13 ∧ (0 ≤ (Int32.toInt r) ∧ (Int32.toInt r) ≤ 1)) := by
  have k0_0 : g0 2 2 = g0 2 2 := rfl
  have k0_1 : g0 0 13 = g0 0 13 := rfl
  unfold fX6_isTooLong_5
  have b1 : 0 ≤ (Int32.toInt (g0 5 3)) ∧ (Int32.toInt (g0 5 3)) ≤ 700 := hI 5 3 0 700 rfl
  have b2 : 0 ≤ (Int32.toInt (g0 5 5)) ∧ (Int32.toInt (g0 5 5)) ≤ 700 := hI 5 5 0 700 rfl
  generalize z3q : ((g0 5 3) - (g0 5 5)) = z3
  have e4 : (Int32.toInt z3) = (Int32.toInt (g0 5 3)) - (Int32.toInt (g0 5 5)) := by rw [← z3q]; exact ic_subc rfl rfl (by omega) (by omega)
  have J18 : ∀ (t0 : Int32) (g : Nat → Nat → Int32) (L : Nat → Nat → Int64), (0 ≤ (Int32.toInt t0) ∧ (Int32.toInt t0) ≤ 1) → zI XT g → pJ g → g 2 2 = g0 2 2 → g 0 13 = g0 0 13 → Ex (fX6_isTooLong_5_p18 fu t0 g L) (fun (r : Int32) (g1 : Nat → Nat → Int32) (L1 : Nat → Nat → Int64) => zI XT g1 ∧ pJ g1 ∧ g1 2 2 = g0 2 2 ∧ g1 0 13 = g0 0 13 ∧ (0 ≤ (Int32.toInt r) ∧ (Int32.toInt r) ≤ 1)) := by
    intro t0 g L hb_t0 hI hJ k0_0 k0_1
    unfold fX6_isTooLong_5_p18
    refine Ex.ckb (z_bool (by omega)) ?_
    exact Ex.ret ⟨hI, hJ, k0_0, k0_1, (by omega)⟩
  refine Ex.ite (fun c5 => ?_) (fun c5 => ?_)
  ·
    have c5 := icc_le (m := (Int32.toInt z3)) (n := 4) rfl (by decide) c5
    exact J18 0 g0 L0 (by decide) hI hJ k0_0 k0_1
  ·
    have c5 := icc_nle (m := (Int32.toInt z3)) (n := 4) rfl (by decide) c5
    exact J18 1 g0 L0 (by decide) hI hJ k0_0 k0_1
set_option maxHeartbeats 4000000 in
set_option maxRecDepth 100000 in
theorem sX6_isSignNow_5 (fu : Nat) (hfu : 1180591620717411303424 ≤ fu) (p1 : Int32) (g0 : Nat → Nat → Int32) (L0 : Nat → Nat → Int64) (hI : zI XT g0) (hJ : pJ g0) : Ex (fX6_isSignNow_5 fu p1 g0 L0) (fun (r : Int32) (g1 : Nat → Nat → Int32) (L1 : Nat → Nat → Int64) => zI XT g1 ∧ pJ g1 ∧ g1 2 2 = g0 2 2 ∧ g1 0 13 = g0 0 13 ∧ (0 ≤ (Int32.toInt r) ∧ (Int32.toInt r) ≤ 1)) := by
  have k0_0 : g0 2 2 = g0 2 2 := rfl
  have k0_1 : g0 0 13 = g0 0 13 := rfl
  unfold fX6_isSignNow_5
  have J26 : ∀ (t0 : Int32) (g : Nat → Nat → Int32) (L : Nat → Nat → Int64), (0 ≤ (Int32.toInt t0) ∧ (Int32.toInt t0) ≤ 1) → zI XT g → pJ g → g 2 2 = g0 2 2 → g 0 13 = g0 0 13 → Ex (fX6_isSignNow_5_p26 fu t0 g L) (fun (r : Int32) (g1 : Nat → Nat → Int32) (L1 : Nat → Nat → Int64) => zI XT g1 ∧ pJ g1 ∧ g1 2 2 = g0 2 2 ∧ g1 0 13 = g0 0 13 ∧ (0 ≤ (Int32.toInt r) ∧ (Int32.toInt r) ≤ 1)) := by
    intro t0 g L hb_t0 hI hJ k0_0 k0_1
    unfold fX6_isSignNow_5_p26
    refine Ex.ckb (z_bool (by omega)) ?_
    exact Ex.ret ⟨hI, hJ, k0_0, k0_1, (by omega)⟩
  have J25 : ∀ (g : Nat → Nat → Int32) (L : Nat → Nat → Int64), zI XT g → pJ g → g 2 2 = g0 2 2 → g 0 13 = g0 0 13 → Ex (fX6_isSignNow_5_p25 fu g L) (fun (r : Int32) (g1 : Nat → Nat → Int32) (L1 : Nat → Nat → Int64) => zI XT g1 ∧ pJ g1 ∧ g1 2 2 = g0 2 2 ∧ g1 0 13 = g0 0 13 ∧ (0 ≤ (Int32.toInt r) ∧ (Int32.toInt r) ≤ 1)) := by
    intro g L hI hJ k0_0 k0_1
    unfold fX6_isSignNow_5_p25
    exact J26 0 g L (by decide) hI hJ k0_0 k0_1
  refine Ex.ite (fun c1 => ?_) (fun c1 => ?_)
  ·
    have c1 := icc_eq (m := (Int32.toInt (g0 5 4))) (n := 3) rfl (by decide) c1
    have b2 : 0 ≤ (Int32.toInt (g0 5 5)) ∧ (Int32.toInt (g0 5 5)) ≤ 700 := hI 5 5 0 700 rfl
    have hm_ : (Int32.toInt (g0 5 5)) ≤ 699 := hJ (by omega)
    refine Ex.ck (by omega) (by omega) ?_
    have b3 : 0 ≤ (Int32.toInt (g0 14 (Int32.toNatClampNeg (g0 5 5)))) ∧ (Int32.toInt (g0 14 (Int32.toNatClampNeg (g0 5 5)))) ≤ 255 := hI 14 _ 0 255 rfl
    refine Ex.ite (fun c4 => ?_) (fun c4 => ?_)
    ·
      have c4 := icc_eq (m := (Int32.toInt (g0 14 (Int32.toNatClampNeg (g0 5 5))))) (n := (Int32.toInt p1)) rfl rfl c4
      exact J26 1 g0 L0 (by decide) hI hJ k0_0 k0_1
    ·
      have c4 := icc_neq (m := (Int32.toInt (g0 14 (Int32.toNatClampNeg (g0 5 5))))) (n := (Int32.toInt p1)) rfl rfl c4
      exact J25 g0 L0 hI hJ k0_0 k0_1
  ·
    have c1 := icc_neq (m := (Int32.toInt (g0 5 4))) (n := 3) rfl (by decide) c1
    exact J25 g0 L0 hI hJ k0_0 k0_1
set_option maxHeartbeats 4000000 in
set_option maxRecDepth 100000 in
theorem sX6_readNumber_5 (fu : Nat) (hfu : 1180591620717411303424 ≤ fu) (p1 : Int32) (p2 : Int32) (g0 : Nat → Nat → Int32) (L0 : Nat → Nat → Int64) (hI : zI XT g0) (hJ : pJ g0) : Ex (fX6_readNumber_5 fu p1 p2 g0 L0) (fun (r : Int32) (g1 : Nat → Nat → Int32) (L1 : Nat → Nat → Int64) => zI XT g1 ∧ pJ g1 ∧ g1 2 2 = g0 2 2 ∧ g1 0 13 = g0 0 13 ∧ (0 ≤ (Int32.toInt r) ∧ (Int32.toInt r) ≤ 9999)) := by
  have k0_0 : g0 2 2 = g0 2 2 := rfl
  have k0_1 : g0 0 13 = g0 0 13 := rfl
  unfold fX6_readNumber_5
  refine Ex.ite (fun c1 => ?_) (fun c1 => ?_)
  ·
    have c1 := icc_eq (m := (Int32.toInt (g0 5 4))) (n := 1) rfl (by decide) c1
    refine Ex.cb (sX6_isTooLong_5 fu hfu g0 L0 hI hJ) (fun x2 g3 L4 hq6 => ?_)
    obtain ⟨hI, hJ, kk0, kk1, rb_⟩ := hq6
    have b7 : 0 ≤ (Int32.toInt x2) ∧ (Int32.toInt x2) ≤ 1 := rb_
    have hI : zI XT g3 := hI
    have hJ : pJ g3 := hJ
    have k0_0 : g3 2 2 = g0 2 2 := kk0.trans k0_0
    have k0_1 : g3 0 13 = g0 0 13 := kk1.trans k0_1
    have J38 : ∀ (g : Nat → Nat → Int32) (L : Nat → Nat → Int64), zI XT g → pJ g → g 2 2 = g0 2 2 → g 0 13 = g0 0 13 → Ex (fX6_readNumber_5_p38 fu g L) (fun (r : Int32) (g1 : Nat → Nat → Int32) (L1 : Nat → Nat → Int64) => zI XT g1 ∧ pJ g1 ∧ g1 2 2 = g0 2 2 ∧ g1 0 13 = g0 0 13 ∧ (0 ≤ (Int32.toInt r) ∧ (Int32.toInt r) ≤ 9999)) := by
      intro g L hI hJ k0_0 k0_1
      unfold fX6_readNumber_5_p38
      refine Ex.cb (sX6_refuse_5 fu hfu 2 g L hI hJ) (fun x8 g9 L10 hq12 => ?_)
      obtain ⟨hI, hJ, kk0, kk1⟩ := hq12
      have hI : zI XT g9 := hI
      have hJ : pJ g9 := hJ
      have k0_0 : g9 2 2 = g0 2 2 := kk0.trans k0_0
      have k0_1 : g9 0 13 = g0 0 13 := kk1.trans k0_1
      exact Ex.ret ⟨hI, hJ, k0_0, k0_1, (by decide)⟩
    refine Ex.ite (fun c13 => ?_) (fun c13 => ?_)
    ·
      have c13 := icc_eq (m := (Int32.toInt x2)) (n := 0) rfl (by decide) c13
      have b14 : 0 ≤ (Int32.toInt (g3 5 6)) ∧ (Int32.toInt (g3 5 6)) ≤ 9999 := hI 5 6 0 9999 rfl
      refine Ex.ite (fun c15 => ?_) (fun c15 => ?_)
      ·
        have c15 := icc_lt (m := (Int32.toInt (g3 5 6))) (n := (Int32.toInt p1)) rfl rfl c15
        exact J38 g3 L4 hI hJ k0_0 k0_1
      ·
        have c15 := icc_nlt (m := (Int32.toInt (g3 5 6))) (n := (Int32.toInt p1)) rfl rfl c15
        have b16 : 0 ≤ (Int32.toInt (g3 5 6)) ∧ (Int32.toInt (g3 5 6)) ≤ 9999 := hI 5 6 0 9999 rfl
        refine Ex.ite (fun c17 => ?_) (fun c17 => ?_)
        ·
          have c17 := icc_le (m := (Int32.toInt (g3 5 6))) (n := (Int32.toInt p2)) rfl rfl c17
          refine Ex.lti (fun x18 x18e x18i => ?_)
          refine Ex.cb (sX6_advance_5 fu hfu g3 L4 hI hJ) (fun x19 g20 L21 hq23 => ?_)
          obtain ⟨hI, hJ, kk0, kk1⟩ := hq23
          have hI : zI XT g20 := hI
          have hJ : pJ g20 := hJ
          have k0_0 : g20 2 2 = g0 2 2 := kk0.trans k0_0
          have k0_1 : g20 0 13 = g0 0 13 := kk1.trans k0_1
          exact Ex.ret ⟨hI, hJ, k0_0, k0_1, (by omega)⟩
        ·
          have c17 := icc_nle (m := (Int32.toInt (g3 5 6))) (n := (Int32.toInt p2)) rfl rfl c17
          exact J38 g3 L4 hI hJ k0_0 k0_1
    ·
      have c13 := icc_neq (m := (Int32.toInt x2)) (n := 0) rfl (by decide) c13
      exact J38 g3 L4 hI hJ k0_0 k0_1
  ·
    have c1 := icc_neq (m := (Int32.toInt (g0 5 4))) (n := 1) rfl (by decide) c1
    refine Ex.cb (sX6_refuse_5 fu hfu 1 g0 L0 hI hJ) (fun x24 g25 L26 hq28 => ?_)
    obtain ⟨hI, hJ, kk0, kk1⟩ := hq28
    have hI : zI XT g25 := hI
    have hJ : pJ g25 := hJ
    have k0_0 : g25 2 2 = g0 2 2 := kk0.trans k0_0
    have k0_1 : g25 0 13 = g0 0 13 := kk1.trans k0_1
    exact Ex.ret ⟨hI, hJ, k0_0, k0_1, (by decide)⟩
set_option maxHeartbeats 4000000 in
set_option maxRecDepth 100000 in
theorem sX6_readSign_5 (fu : Nat) (hfu : 1180591620717411303424 ≤ fu) (p1 : Int32) (g0 : Nat → Nat → Int32) (L0 : Nat → Nat → Int64) (hI : zI XT g0) (hJ : pJ g0) : Ex (fX6_readSign_5 fu p1 g0 L0) (fun (r : Unit) (g1 : Nat → Nat → Int32) (L1 : Nat → Nat → Int64) => zI XT g1 ∧ pJ g1 ∧ g1 2 2 = g0 2 2 ∧ g1 0 13 = g0 0 13) := by
  have k0_0 : g0 2 2 = g0 2 2 := rfl
  have k0_1 : g0 0 13 = g0 0 13 := rfl
  unfold fX6_readSign_5
  refine Ex.cb (sX6_isSignNow_5 fu hfu p1 g0 L0 hI hJ) (fun x1 g2 L3 hq5 => ?_)
  obtain ⟨hI, hJ, kk0, kk1, rb_⟩ := hq5
  have b6 : 0 ≤ (Int32.toInt x1) ∧ (Int32.toInt x1) ≤ 1 := rb_
  have hI : zI XT g2 := hI
  have hJ : pJ g2 := hJ
  have k0_0 : g2 2 2 = g0 2 2 := kk0.trans k0_0
  have k0_1 : g2 0 13 = g0 0 13 := kk1.trans k0_1
  have J20 : ∀ (g : Nat → Nat → Int32) (L : Nat → Nat → Int64), zI XT g → pJ g → g 2 2 = g0 2 2 → g 0 13 = g0 0 13 → Ex (fX6_readSign_5_p20 fu g L) (fun (r : Unit) (g1 : Nat → Nat → Int32) (L1 : Nat → Nat → Int64) => zI XT g1 ∧ pJ g1 ∧ g1 2 2 = g0 2 2 ∧ g1 0 13 = g0 0 13) := by
    intro g L hI hJ k0_0 k0_1
    unfold fX6_readSign_5_p20
    exact Ex.ret ⟨hI, hJ, k0_0, k0_1⟩
  refine Ex.ite (fun c7 => ?_) (fun c7 => ?_)
  ·
    have c7 := icc_eq (m := (Int32.toInt x1)) (n := 0) rfl (by decide) c7
    refine Ex.cb (sX6_refuse_5 fu hfu 1 g2 L3 hI hJ) (fun x8 g9 L10 hq12 => ?_)
    obtain ⟨hI, hJ, kk0, kk1⟩ := hq12
    have hI : zI XT g9 := hI
    have hJ : pJ g9 := hJ
    have k0_0 : g9 2 2 = g0 2 2 := kk0.trans k0_0
    have k0_1 : g9 0 13 = g0 0 13 := kk1.trans k0_1
    exact J20 g9 L10 hI hJ k0_0 k0_1
  ·
    have c7 := icc_neq (m := (Int32.toInt x1)) (n := 0) rfl (by decide) c7
    refine Ex.cb (sX6_advance_5 fu hfu g2 L3 hI hJ) (fun x13 g14 L15 hq17 => ?_)
    obtain ⟨hI, hJ, kk0, kk1⟩ := hq17
    have hI : zI XT g14 := hI
    have hJ : pJ g14 := hJ
    have k0_0 : g14 2 2 = g0 2 2 := kk0.trans k0_0
    have k0_1 : g14 0 13 = g0 0 13 := kk1.trans k0_1
    exact J20 g14 L15 hI hJ k0_0 k0_1
end
