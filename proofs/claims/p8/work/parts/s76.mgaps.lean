set_option maxHeartbeats 4000000 in
set_option maxRecDepth 100000 in
theorem sX12_gaps (fu : Nat) (hfu : 1180591620717411303424 ≤ fu) (p1 : Int32) (p2 : Int32) (p3 : Int32) (g0 : Nat → Nat → Int32) (L0 : Nat → Nat → Int64) (hI : zI MT g0) (hJ : mJ g0) : Ex (fX12_gaps fu p1 p2 p3 g0 L0) (fun (r : Int32) (g1 : Nat → Nat → Int32) (L1 : Nat → Nat → Int64) => zI MT g1 ∧ mJ g1 ∧ g1 0 18 = g0 0 18 ∧ g1 0 2 = g0 0 2) := by
  have k0_0 : g0 0 18 = g0 0 18 := rfl
  have k0_1 : g0 0 2 = g0 0 2 := rfl
  unfold fX12_gaps
  refine Ex.sti (hI.updN rfl) (fun g1 g1e hI => ?_)
  have k0_0 : g1 0 18 = g0 0 18 := by rw [g1e]; exact k0_0
  have k0_1 : g1 0 2 = g0 0 2 := by rw [g1e]; exact k0_1
  have hJ : mJ g1 := by rw [g1e]; exact mJ.upd hJ rfl
  refine Ex.cb (sX12_isLesson fu hfu p2 g1 L0 hI hJ) (fun x2 g3 L4 hq6 => ?_)
  obtain ⟨hI, hJ, kk0, kk1, rb_, ip0⟩ := hq6
  have b7 : 0 ≤ (Int32.toInt x2) ∧ (Int32.toInt x2) ≤ 1 := rb_
  have ip8 : (Int32.toInt x2) = 1 → 0 ≤ (Int32.toInt p2) ∧ (Int32.toInt p2) ≤ 11 := ip0
  have hI : zI MT g3 := hI
  have hJ : mJ g3 := hJ
  have k0_0 : g3 0 18 = g0 0 18 := kk0.trans k0_0
  have k0_1 : g3 0 2 = g0 0 2 := kk1.trans k0_1
  have J59 : ∀ (g : Nat → Nat → Int32) (L : Nat → Nat → Int64), zI MT g → mJ g → g 0 18 = g0 0 18 → g 0 2 = g0 0 2 → Ex (fX12_gaps_p59 fu g L) (fun (r : Int32) (g1 : Nat → Nat → Int32) (L1 : Nat → Nat → Int64) => zI MT g1 ∧ mJ g1 ∧ g1 0 18 = g0 0 18 ∧ g1 0 2 = g0 0 2) := by
    intro g L hI hJ k0_0 k0_1
    unfold fX12_gaps_p59
    exact Ex.ret ⟨hI, hJ, k0_0, k0_1⟩
  refine Ex.ite (fun c9 => ?_) (fun c9 => ?_)
  ·
    have rg10 := ic_rg x2
    have c9 := icc_eq (m := (Int32.toInt x2)) (n := 0) rfl (by decide) c9
    exact J59 g3 L4 hI hJ k0_0 k0_1
  ·
    have rg11 := ic_rg x2
    have c9 := icc_neq (m := (Int32.toInt x2)) (n := 0) rfl (by decide) c9
    have J52 : ∀ (v1 : Int32) (v2 : Int32) (v3 : Int32) (t0 : Int32) (g : Nat → Nat → Int32) (L : Nat → Nat → Int64), (0 ≤ (Int32.toInt v2) ∧ (Int32.toInt v2) ≤ 11) → (0 ≤ (Int32.toInt t0) ∧ (Int32.toInt t0) ≤ 1) → ((Int32.toInt t0) = 1 → pbs v1 12 ≤ 5) → zI MT g → mJ g → g 0 18 = g0 0 18 → g 0 2 = g0 0 2 → Ex (fX12_gaps_p52 fu v1 v2 v3 t0 g L) (fun (r : Int32) (g1 : Nat → Nat → Int32) (L1 : Nat → Nat → Int64) => zI MT g1 ∧ mJ g1 ∧ g1 0 18 = g0 0 18 ∧ g1 0 2 = g0 0 2) := by
      intro v1 v2 v3 t0 g L hb_v2 hb_t0 hn_0 hI hJ k0_0 k0_1
      unfold fX12_gaps_p52
      refine Ex.cb (sX12_right fu hfu t0 2 g L hI hJ (by omega) (by decide)) (fun x12 g13 L14 hq16 => ?_)
      obtain ⟨hI, hJ, kk0, kk1, rb_, ip0⟩ := hq16
      have b17 : 0 ≤ (Int32.toInt x12) ∧ (Int32.toInt x12) ≤ 1 := rb_
      have ip18 : (Int32.toInt x12) = 1 → 1 ≤ (Int32.toInt t0) ∧ (Int32.toInt t0) ≤ 1 := ip0
      have hI : zI MT g13 := hI
      have hJ : mJ g13 := hJ
      have k0_0 : g13 0 18 = g0 0 18 := kk0.trans k0_0
      have k0_1 : g13 0 2 = g0 0 2 := kk1.trans k0_1
      refine Ex.ite (fun c19 => ?_) (fun c19 => ?_)
      ·
        have rg20 := ic_rg x12
        have c19 := icc_eq (m := (Int32.toInt x12)) (n := 0) rfl (by decide) c19
        exact J59 g13 L14 hI hJ k0_0 k0_1
      ·
        have rg21 := ic_rg x12
        have c19 := icc_neq (m := (Int32.toInt x12)) (n := 0) rfl (by decide) c19
        have hm_ : pbs v1 (Int32.toNatClampNeg 0) = 0 := rfl
        have lp67 : ∀ (v1 : Int32) (v2 : Int32) (v3 : Int32) (v4 : Int32) (v5 : Int32) (g : Nat → Nat → Int32) (L : Nat → Nat → Int64), (0 ≤ (Int32.toInt v2) ∧ (Int32.toInt v2) ≤ 11) → (0 ≤ (Int32.toInt v4) ∧ (Int32.toInt v4) ≤ 5) → (0 ≤ (Int32.toInt v5) ∧ (Int32.toInt v5) ≤ 12) → ((Int32.toInt v4) = pbs v1 (Int32.toNatClampNeg v5)) → (pbs v1 12 ≤ 5) → zI MT g → mJ g → g 0 18 = g0 0 18 → g 0 2 = g0 0 2 → Ex (fX12_gaps_l67 fu v1 v2 v3 v4 v5 g L) (fun (r : Int32) (g1 : Nat → Nat → Int32) (L1 : Nat → Nat → Int64) => zI MT g1 ∧ mJ g1 ∧ g1 0 18 = g0 0 18 ∧ g1 0 2 = g0 0 2) := by
          intro v1 v2 v3 v4 v5 g L hb_v2 hb_v4 hb_v5 hn_0 hn_1 hI hJ k0_0 k0_1
          unfold fX12_gaps_l67
          have rg22 := ic_rg v1
          have rg23 := ic_rg v2
          have rg24 := ic_rg v3
          have rg25 := ic_rg v4
          have rg26 := ic_rg v5
          refine Ex.loop (fun v => ((0 ≤ (Int32.toInt v2) ∧ (Int32.toInt v2) ≤ 11)) ∧ ((0 ≤ (Int32.toInt (v.1)) ∧ (Int32.toInt (v.1)) ≤ 5)) ∧ ((0 ≤ (Int32.toInt (v.2.1)) ∧ (Int32.toInt (v.2.1)) ≤ 12)) ∧ (((Int32.toInt (v.1)) = pbs v1 (Int32.toNatClampNeg (v.2.1)))) ∧ ((pbs v1 12 ≤ 5)) ∧ (zI MT (v.2.2.1)) ∧ (mJ (v.2.2.1)) ∧ ((v.2.2.1) 0 18 = g0 0 18) ∧ ((v.2.2.1) 0 2 = g0 0 2)) (fun v => 13 - (Int32.toInt (v.2.1))) (by omega) (by show 13 - (Int32.toInt v5) < (fu : Int); omega) ⟨hb_v2, hb_v4, hb_v5, hn_0, hn_1, hI, hJ, k0_0, k0_1⟩ (fun k67 v hv ih67 => ?_)
          obtain ⟨v4, v5, g, L⟩ := v
          obtain ⟨hb_v2, hb_v4, hb_v5, hn_0, hn_1, hI, hJ, k0_0, k0_1⟩ := hv
          have hb_v2 : (0 ≤ (Int32.toInt v2) ∧ (Int32.toInt v2) ≤ 11) := hb_v2
          have hb_v4 : (0 ≤ (Int32.toInt v4) ∧ (Int32.toInt v4) ≤ 5) := hb_v4
          have hb_v5 : (0 ≤ (Int32.toInt v5) ∧ (Int32.toInt v5) ≤ 12) := hb_v5
          have hn_0 : ((Int32.toInt v4) = pbs v1 (Int32.toNatClampNeg v5)) := hn_0
          have hn_1 : (pbs v1 12 ≤ 5) := hn_1
          have hI : zI MT g := hI
          have hJ : mJ g := hJ
          have k0_0 : g 0 18 = g0 0 18 := k0_0
          have k0_1 : g 0 2 = g0 0 2 := k0_1
          have ih67 : ∀ v' : Int32 × Int32 × (Nat → Nat → Int32) × (Nat → Nat → Int64), (((0 ≤ (Int32.toInt v2) ∧ (Int32.toInt v2) ≤ 11)) ∧ ((0 ≤ (Int32.toInt (v'.1)) ∧ (Int32.toInt (v'.1)) ≤ 5)) ∧ ((0 ≤ (Int32.toInt (v'.2.1)) ∧ (Int32.toInt (v'.2.1)) ≤ 12)) ∧ (((Int32.toInt (v'.1)) = pbs v1 (Int32.toNatClampNeg (v'.2.1)))) ∧ ((pbs v1 12 ≤ 5)) ∧ (zI MT (v'.2.2.1)) ∧ (mJ (v'.2.2.1)) ∧ ((v'.2.2.1) 0 18 = g0 0 18) ∧ ((v'.2.2.1) 0 2 = g0 0 2)) → 13 - (Int32.toInt (v'.2.1)) < 13 - (Int32.toInt v5) → 0 < 13 - (Int32.toInt v5) → Ex (k67 v') (fun (r : Int32) (g1 : Nat → Nat → Int32) (L1 : Nat → Nat → Int64) => zI MT g1 ∧ mJ g1 ∧ g1 0 18 = g0 0 18 ∧ g1 0 2 = g0 0 2) := ih67
          show Ex (fX12_gaps_s67 fu v1 v2 v3 k67 v4 v5 g L) (fun (r : Int32) (g1 : Nat → Nat → Int32) (L1 : Nat → Nat → Int64) => zI MT g1 ∧ mJ g1 ∧ g1 0 18 = g0 0 18 ∧ g1 0 2 = g0 0 2)
          unfold fX12_gaps_s67
          have hm_ := pbs_le (s := v1) (k := (Int32.toNatClampNeg v5)) (by rw [nc]; omega)
          have hm2_ := pbs_pos v1 (Int32.toNatClampNeg v5)
          refine Ex.ite (fun c27 => ?_) (fun c27 => ?_)
          ·
            have rg28 := ic_rg v5
            have c27 := icc_le (m := 12) (n := (Int32.toInt v5)) (by decide) rfl c27
            have lp127 : ∀ (v2 : Int32) (v3 : Int32) (v4 : Int32) (v5 : Int32) (v6 : Int32) (g : Nat → Nat → Int32) (L : Nat → Nat → Int64), (0 ≤ (Int32.toInt v2) ∧ (Int32.toInt v2) ≤ 11) → (0 ≤ (Int32.toInt v4) ∧ (Int32.toInt v4) ≤ 5) → (0 ≤ (Int32.toInt v6) ∧ (Int32.toInt v6) ≤ 5) → zI MT g → mJ g → g 0 18 = g0 0 18 → g 0 2 = g0 0 2 → Ex (fX12_gaps_l127 fu v2 v3 v4 v5 v6 g L) (fun (r : Int32) (g1 : Nat → Nat → Int32) (L1 : Nat → Nat → Int64) => zI MT g1 ∧ mJ g1 ∧ g1 0 18 = g0 0 18 ∧ g1 0 2 = g0 0 2) := by
              intro v2 v3 v4 v5 v6 g L hb_v2 hb_v4 hb_v6 hI hJ k0_0 k0_1
              unfold fX12_gaps_l127
              have rg29 := ic_rg v2
              have rg30 := ic_rg v3
              have rg31 := ic_rg v4
              have rg32 := ic_rg v5
              have rg33 := ic_rg v6
              refine Ex.loop (fun v => ((0 ≤ (Int32.toInt v2) ∧ (Int32.toInt v2) ≤ 11)) ∧ ((0 ≤ (Int32.toInt v4) ∧ (Int32.toInt v4) ≤ 5)) ∧ ((0 ≤ (Int32.toInt (v.2.1)) ∧ (Int32.toInt (v.2.1)) ≤ 5)) ∧ (zI MT (v.2.2.1)) ∧ (mJ (v.2.2.1)) ∧ ((v.2.2.1) 0 18 = g0 0 18) ∧ ((v.2.2.1) 0 2 = g0 0 2)) (fun v => 6 - (Int32.toInt (v.2.1))) (by omega) (by show 6 - (Int32.toInt v6) < (fu : Int); omega) ⟨hb_v2, hb_v4, hb_v6, hI, hJ, k0_0, k0_1⟩ (fun k127 v hv ih127 => ?_)
              obtain ⟨v5, v6, g, L⟩ := v
              obtain ⟨hb_v2, hb_v4, hb_v6, hI, hJ, k0_0, k0_1⟩ := hv
              have hb_v2 : (0 ≤ (Int32.toInt v2) ∧ (Int32.toInt v2) ≤ 11) := hb_v2
              have hb_v4 : (0 ≤ (Int32.toInt v4) ∧ (Int32.toInt v4) ≤ 5) := hb_v4
              have hb_v6 : (0 ≤ (Int32.toInt v6) ∧ (Int32.toInt v6) ≤ 5) := hb_v6
              have hI : zI MT g := hI
              have hJ : mJ g := hJ
              have k0_0 : g 0 18 = g0 0 18 := k0_0
              have k0_1 : g 0 2 = g0 0 2 := k0_1
              have ih127 : ∀ v' : Int32 × Int32 × (Nat → Nat → Int32) × (Nat → Nat → Int64), (((0 ≤ (Int32.toInt v2) ∧ (Int32.toInt v2) ≤ 11)) ∧ ((0 ≤ (Int32.toInt v4) ∧ (Int32.toInt v4) ≤ 5)) ∧ ((0 ≤ (Int32.toInt (v'.2.1)) ∧ (Int32.toInt (v'.2.1)) ≤ 5)) ∧ (zI MT (v'.2.2.1)) ∧ (mJ (v'.2.2.1)) ∧ ((v'.2.2.1) 0 18 = g0 0 18) ∧ ((v'.2.2.1) 0 2 = g0 0 2)) → 6 - (Int32.toInt (v'.2.1)) < 6 - (Int32.toInt v6) → 0 < 6 - (Int32.toInt v6) → Ex (k127 v') (fun (r : Int32) (g1 : Nat → Nat → Int32) (L1 : Nat → Nat → Int64) => zI MT g1 ∧ mJ g1 ∧ g1 0 18 = g0 0 18 ∧ g1 0 2 = g0 0 2) := ih127
              show Ex (fX12_gaps_s127 fu v2 v3 v4 k127 v5 v6 g L) (fun (r : Int32) (g1 : Nat → Nat → Int32) (L1 : Nat → Nat → Int64) => zI MT g1 ∧ mJ g1 ∧ g1 0 18 = g0 0 18 ∧ g1 0 2 = g0 0 2)
              unfold fX12_gaps_s127
              refine Ex.ite (fun c34 => ?_) (fun c34 => ?_)
              ·
                have rg35 := ic_rg v6
                have rg36 := ic_rg v4
                have c34 := icc_le (m := (Int32.toInt v4)) (n := (Int32.toInt v6)) rfl rfl c34
                have lp152 : ∀ (v2 : Int32) (v3 : Int32) (v4 : Int32) (v5 : Int32) (v6 : Int32) (v7 : Int32) (g : Nat → Nat → Int32) (L : Nat → Nat → Int64), (0 ≤ (Int32.toInt v2) ∧ (Int32.toInt v2) ≤ 11) → (0 ≤ (Int32.toInt v4) ∧ (Int32.toInt v4) ≤ 5) → (0 ≤ (Int32.toInt v7)) → zI MT g → mJ g → g 0 18 = g0 0 18 → g 0 2 = g0 0 2 → Ex (fX12_gaps_l152 fu v2 v3 v4 v5 v6 v7 g L) (fun (r : Int32) (g1 : Nat → Nat → Int32) (L1 : Nat → Nat → Int64) => zI MT g1 ∧ mJ g1 ∧ g1 0 18 = g0 0 18 ∧ g1 0 2 = g0 0 2) := by
                  intro v2 v3 v4 v5 v6 v7 g L hb_v2 hb_v4 hb_v7 hI hJ k0_0 k0_1
                  unfold fX12_gaps_l152
                  have rg37 := ic_rg v2
                  have rg38 := ic_rg v3
                  have rg39 := ic_rg v4
                  have rg40 := ic_rg v5
                  have rg41 := ic_rg v6
                  have rg42 := ic_rg v7
                  refine Ex.loop (fun v => ((0 ≤ (Int32.toInt v2) ∧ (Int32.toInt v2) ≤ 11)) ∧ ((0 ≤ (Int32.toInt v4) ∧ (Int32.toInt v4) ≤ 5)) ∧ ((0 ≤ (Int32.toInt (v.2.1)))) ∧ (zI MT (v.2.2.1)) ∧ (mJ (v.2.2.1)) ∧ ((v.2.2.1) 0 18 = g0 0 18) ∧ ((v.2.2.1) 0 2 = g0 0 2)) (fun v => (Int32.toInt v5) - (Int32.toInt (v.2.1))) (by omega) (by show (Int32.toInt v5) - (Int32.toInt v7) < (fu : Int); omega) ⟨hb_v2, hb_v4, hb_v7, hI, hJ, k0_0, k0_1⟩ (fun k152 v hv ih152 => ?_)
                  obtain ⟨v6, v7, g, L⟩ := v
                  obtain ⟨hb_v2, hb_v4, hb_v7, hI, hJ, k0_0, k0_1⟩ := hv
                  have hb_v2 : (0 ≤ (Int32.toInt v2) ∧ (Int32.toInt v2) ≤ 11) := hb_v2
                  have hb_v4 : (0 ≤ (Int32.toInt v4) ∧ (Int32.toInt v4) ≤ 5) := hb_v4
                  have hb_v7 : (0 ≤ (Int32.toInt v7)) := hb_v7
                  have hI : zI MT g := hI
                  have hJ : mJ g := hJ
                  have k0_0 : g 0 18 = g0 0 18 := k0_0
                  have k0_1 : g 0 2 = g0 0 2 := k0_1
                  have ih152 : ∀ v' : Int32 × Int32 × (Nat → Nat → Int32) × (Nat → Nat → Int64), (((0 ≤ (Int32.toInt v2) ∧ (Int32.toInt v2) ≤ 11)) ∧ ((0 ≤ (Int32.toInt v4) ∧ (Int32.toInt v4) ≤ 5)) ∧ ((0 ≤ (Int32.toInt (v'.2.1)))) ∧ (zI MT (v'.2.2.1)) ∧ (mJ (v'.2.2.1)) ∧ ((v'.2.2.1) 0 18 = g0 0 18) ∧ ((v'.2.2.1) 0 2 = g0 0 2)) → (Int32.toInt v5) - (Int32.toInt (v'.2.1)) < (Int32.toInt v5) - (Int32.toInt v7) → 0 < (Int32.toInt v5) - (Int32.toInt v7) → Ex (k152 v') (fun (r : Int32) (g1 : Nat → Nat → Int32) (L1 : Nat → Nat → Int64) => zI MT g1 ∧ mJ g1 ∧ g1 0 18 = g0 0 18 ∧ g1 0 2 = g0 0 2) := ih152
                  show Ex (fX12_gaps_s152 fu v2 v3 v4 v5 k152 v6 v7 g L) (fun (r : Int32) (g1 : Nat → Nat → Int32) (L1 : Nat → Nat → Int64) => zI MT g1 ∧ mJ g1 ∧ g1 0 18 = g0 0 18 ∧ g1 0 2 = g0 0 2)
                  unfold fX12_gaps_s152
                  refine Ex.ite (fun c43 => ?_) (fun c43 => ?_)
                  ·
                    have rg44 := ic_rg v7
                    have rg45 := ic_rg v5
                    have c43 := icc_le (m := (Int32.toInt v5)) (n := (Int32.toInt v7)) rfl rfl c43
                    have lp295 : ∀ (v6 : Int32) (v7 : Int32) (g : Nat → Nat → Int32) (L : Nat → Nat → Int64), (0 ≤ (Int32.toInt v7) ∧ (Int32.toInt v7) ≤ 12) → zI MT g → mJ g → g 0 18 = g0 0 18 → g 0 2 = g0 0 2 → Ex (fX12_gaps_l295 fu v6 v7 g L) (fun (r : Int32) (g1 : Nat → Nat → Int32) (L1 : Nat → Nat → Int64) => zI MT g1 ∧ mJ g1 ∧ g1 0 18 = g0 0 18 ∧ g1 0 2 = g0 0 2) := by
                      intro v6 v7 g L hb_v7 hI hJ k0_0 k0_1
                      unfold fX12_gaps_l295
                      have rg46 := ic_rg v6
                      have rg47 := ic_rg v7
                      refine Ex.loop (fun v => ((0 ≤ (Int32.toInt (v.1)) ∧ (Int32.toInt (v.1)) ≤ 12)) ∧ (zI MT (v.2.1)) ∧ (mJ (v.2.1)) ∧ ((v.2.1) 0 18 = g0 0 18) ∧ ((v.2.1) 0 2 = g0 0 2)) (fun v => 13 - (Int32.toInt (v.1))) (by omega) (by show 13 - (Int32.toInt v7) < (fu : Int); omega) ⟨hb_v7, hI, hJ, k0_0, k0_1⟩ (fun k295 v hv ih295 => ?_)
                      obtain ⟨v7, g, L⟩ := v
                      obtain ⟨hb_v7, hI, hJ, k0_0, k0_1⟩ := hv
                      have hb_v7 : (0 ≤ (Int32.toInt v7) ∧ (Int32.toInt v7) ≤ 12) := hb_v7
                      have hI : zI MT g := hI
                      have hJ : mJ g := hJ
                      have k0_0 : g 0 18 = g0 0 18 := k0_0
                      have k0_1 : g 0 2 = g0 0 2 := k0_1
                      have ih295 : ∀ v' : Int32 × (Nat → Nat → Int32) × (Nat → Nat → Int64), (((0 ≤ (Int32.toInt (v'.1)) ∧ (Int32.toInt (v'.1)) ≤ 12)) ∧ (zI MT (v'.2.1)) ∧ (mJ (v'.2.1)) ∧ ((v'.2.1) 0 18 = g0 0 18) ∧ ((v'.2.1) 0 2 = g0 0 2)) → 13 - (Int32.toInt (v'.1)) < 13 - (Int32.toInt v7) → 0 < 13 - (Int32.toInt v7) → Ex (k295 v') (fun (r : Int32) (g1 : Nat → Nat → Int32) (L1 : Nat → Nat → Int64) => zI MT g1 ∧ mJ g1 ∧ g1 0 18 = g0 0 18 ∧ g1 0 2 = g0 0 2) := ih295
                      show Ex (fX12_gaps_s295 fu v6 k295 v7 g L) (fun (r : Int32) (g1 : Nat → Nat → Int32) (L1 : Nat → Nat → Int64) => zI MT g1 ∧ mJ g1 ∧ g1 0 18 = g0 0 18 ∧ g1 0 2 = g0 0 2)
                      unfold fX12_gaps_s295
                      refine Ex.ite (fun c48 => ?_) (fun c48 => ?_)
                      ·
                        have rg49 := ic_rg v7
                        have c48 := icc_le (m := 12) (n := (Int32.toInt v7)) (by decide) rfl c48
                        have J336 : ∀ (v6 : Int32) (g : Nat → Nat → Int32) (L : Nat → Nat → Int64), zI MT g → mJ g → g 0 18 = g0 0 18 → g 0 2 = g0 0 2 → Ex (fX12_gaps_p336 fu v6 g L) (fun (r : Int32) (g1 : Nat → Nat → Int32) (L1 : Nat → Nat → Int64) => zI MT g1 ∧ mJ g1 ∧ g1 0 18 = g0 0 18 ∧ g1 0 2 = g0 0 2) := by
                          intro v6 g L hI hJ k0_0 k0_1
                          unfold fX12_gaps_p336
                          exact Ex.ret ⟨hI, hJ, k0_0, k0_1⟩
                        refine Ex.ite (fun c50 => ?_) (fun c50 => ?_)
                        ·
                          have rg51 := ic_rg v6
                          have c50 := icc_eq (m := (Int32.toInt v6)) (n := (-1)) rfl (by decide) c50
                          exact J336 v6 g L hI hJ k0_0 k0_1
                        ·
                          have rg52 := ic_rg v6
                          have c50 := icc_neq (m := (Int32.toInt v6)) (n := (-1)) rfl (by decide) c50
                          refine Ex.sti (hI.upd rfl (by decide) (by decide)) (fun g53 g53e hI => ?_)
                          have k0_0 : g53 0 18 = g0 0 18 := by rw [g53e]; exact k0_0
                          have k0_1 : g53 0 2 = g0 0 2 := by rw [g53e]; exact k0_1
                          have hJ : mJ g53 := by rw [g53e]; exact mJ.upd hJ rfl
                          exact J336 v6 g53 L hI hJ k0_0 k0_1
                      ·
                        have rg54 := ic_rg v7
                        have c48 := icc_nle (m := 12) (n := (Int32.toInt v7)) (by decide) rfl c48
                        generalize z55q : (12 + v7) = z55
                        have e56 : (Int32.toInt z55) = 12 + (Int32.toInt v7) := by rw [← z55q]; exact ic_addc (by decide) rfl (by omega) (by omega)
                        refine Ex.ck (by omega) (by omega) ?_
                        refine Ex.ck (by omega) (by omega) ?_
                        refine Ex.sti (hI.updN rfl) (fun g57 g57e hI => ?_)
                        have k0_0 : g57 0 18 = g0 0 18 := by rw [g57e]; exact k0_0
                        have k0_1 : g57 0 2 = g0 0 2 := by rw [g57e]; exact k0_1
                        have hJ : mJ g57 := by rw [g57e]; exact mJ.upd hJ rfl
                        generalize z58q : (v7 + 1) = z58
                        have e59 : (Int32.toInt z58) = (Int32.toInt v7) + 1 := by rw [← z58q]; exact ic_addc rfl (by decide) (by omega) (by omega)
                        exact ih295 (z58, g57, L) ⟨(show (0 ≤ (Int32.toInt z58) ∧ (Int32.toInt z58) ≤ 12) from by omega), hI, hJ, k0_0, k0_1⟩ (by show 13 - (Int32.toInt z58) < _; omega) (by omega)
                    exact lp295 v6 0 g L (by decide) hI hJ k0_0 k0_1
                  ·
                    have rg60 := ic_rg v7
                    have rg61 := ic_rg v5
                    have c43 := icc_nle (m := (Int32.toInt v5)) (n := (Int32.toInt v7)) rfl rfl c43
                    generalize z62q : (v4 - 1) = z62
                    have e63 : (Int32.toInt z62) = (Int32.toInt v4) - 1 := by rw [← z62q]; exact ic_subc rfl (by decide) (by omega) (by omega)
                    refine Ex.lti (fun x64 x64e x64i => ?_)
                    have lp172 : ∀ (v8 : Int32) (v9 : Int32) (v10 : Int32) (g : Nat → Nat → Int32) (L : Nat → Nat → Int64), (0 ≤ (Int32.toInt v2) ∧ (Int32.toInt v2) ≤ 11) → (0 ≤ (Int32.toInt v4) ∧ (Int32.toInt v4) ≤ 5) → (1 ≤ (Int32.toInt v5)) → (0 ≤ (Int32.toInt v7) ∧ (Int32.toInt v7) ≤ 2147483646) → ((-1) ≤ (Int32.toInt v10) ∧ (Int32.toInt v10) ≤ 4) → zI MT g → mJ g → g 0 18 = g0 0 18 → g 0 2 = g0 0 2 → Ex (fX12_gaps_l172 fu k152 v2 v3 v4 v5 v6 v7 v8 v9 v10 g L) (fun (r : Int32) (g1 : Nat → Nat → Int32) (L1 : Nat → Nat → Int64) => zI MT g1 ∧ mJ g1 ∧ g1 0 18 = g0 0 18 ∧ g1 0 2 = g0 0 2) := by
                      intro v8 v9 v10 g L hb_v2 hb_v4 hb_v5 hb_v7 hb_v10 hI hJ k0_0 k0_1
                      unfold fX12_gaps_l172
                      have rg65 := ic_rg v2
                      have rg66 := ic_rg v3
                      have rg67 := ic_rg v4
                      have rg68 := ic_rg v5
                      have rg69 := ic_rg v6
                      have rg70 := ic_rg v7
                      have rg71 := ic_rg v8
                      have rg72 := ic_rg v9
                      have rg73 := ic_rg v10
                      refine Ex.loop (fun v => ((0 ≤ (Int32.toInt v2) ∧ (Int32.toInt v2) ≤ 11)) ∧ ((0 ≤ (Int32.toInt v4) ∧ (Int32.toInt v4) ≤ 5)) ∧ ((1 ≤ (Int32.toInt v5))) ∧ ((0 ≤ (Int32.toInt v7) ∧ (Int32.toInt v7) ≤ 2147483646)) ∧ (((-1) ≤ (Int32.toInt (v.2.2.1)) ∧ (Int32.toInt (v.2.2.1)) ≤ 4)) ∧ (zI MT (v.2.2.2.1)) ∧ (mJ (v.2.2.2.1)) ∧ ((v.2.2.2.1) 0 18 = g0 0 18) ∧ ((v.2.2.2.1) 0 2 = g0 0 2)) (fun v => (Int32.toInt (v.2.2.1)) - (-2)) (by omega) (by show (Int32.toInt v10) - (-2) < (fu : Int); omega) ⟨hb_v2, hb_v4, hb_v5, hb_v7, hb_v10, hI, hJ, k0_0, k0_1⟩ (fun k172 v hv ih172 => ?_)
                      obtain ⟨v8, v9, v10, g, L⟩ := v
                      obtain ⟨hb_v2, hb_v4, hb_v5, hb_v7, hb_v10, hI, hJ, k0_0, k0_1⟩ := hv
                      have hb_v2 : (0 ≤ (Int32.toInt v2) ∧ (Int32.toInt v2) ≤ 11) := hb_v2
                      have hb_v4 : (0 ≤ (Int32.toInt v4) ∧ (Int32.toInt v4) ≤ 5) := hb_v4
                      have hb_v5 : (1 ≤ (Int32.toInt v5)) := hb_v5
                      have hb_v7 : (0 ≤ (Int32.toInt v7) ∧ (Int32.toInt v7) ≤ 2147483646) := hb_v7
                      have hb_v10 : ((-1) ≤ (Int32.toInt v10) ∧ (Int32.toInt v10) ≤ 4) := hb_v10
                      have hI : zI MT g := hI
                      have hJ : mJ g := hJ
                      have k0_0 : g 0 18 = g0 0 18 := k0_0
                      have k0_1 : g 0 2 = g0 0 2 := k0_1
                      have ih172 : ∀ v' : Int32 × Int32 × Int32 × (Nat → Nat → Int32) × (Nat → Nat → Int64), (((0 ≤ (Int32.toInt v2) ∧ (Int32.toInt v2) ≤ 11)) ∧ ((0 ≤ (Int32.toInt v4) ∧ (Int32.toInt v4) ≤ 5)) ∧ ((1 ≤ (Int32.toInt v5))) ∧ ((0 ≤ (Int32.toInt v7) ∧ (Int32.toInt v7) ≤ 2147483646)) ∧ (((-1) ≤ (Int32.toInt (v'.2.2.1)) ∧ (Int32.toInt (v'.2.2.1)) ≤ 4)) ∧ (zI MT (v'.2.2.2.1)) ∧ (mJ (v'.2.2.2.1)) ∧ ((v'.2.2.2.1) 0 18 = g0 0 18) ∧ ((v'.2.2.2.1) 0 2 = g0 0 2)) → (Int32.toInt (v'.2.2.1)) - (-2) < (Int32.toInt v10) - (-2) → 0 < (Int32.toInt v10) - (-2) → Ex (k172 v') (fun (r : Int32) (g1 : Nat → Nat → Int32) (L1 : Nat → Nat → Int64) => zI MT g1 ∧ mJ g1 ∧ g1 0 18 = g0 0 18 ∧ g1 0 2 = g0 0 2) := ih172
                      show Ex (fX12_gaps_s172 fu k152 v2 v3 v4 v5 v6 v7 k172 v8 v9 v10 g L) (fun (r : Int32) (g1 : Nat → Nat → Int32) (L1 : Nat → Nat → Int64) => zI MT g1 ∧ mJ g1 ∧ g1 0 18 = g0 0 18 ∧ g1 0 2 = g0 0 2)
                      unfold fX12_gaps_s172
                      refine Ex.ite (fun c74 => ?_) (fun c74 => ?_)
                      ·
                        have rg75 := ic_rg v10
                        have c74 := icc_lt (m := (Int32.toInt v10)) (n := 0) rfl (by decide) c74
                        have J286 : ∀ (v6 : Int32) (g : Nat → Nat → Int32) (L : Nat → Nat → Int64), (0 ≤ (Int32.toInt v2) ∧ (Int32.toInt v2) ≤ 11) → (0 ≤ (Int32.toInt v4) ∧ (Int32.toInt v4) ≤ 5) → (1 ≤ (Int32.toInt v5)) → (0 ≤ (Int32.toInt v7) ∧ (Int32.toInt v7) ≤ 2147483646) → zI MT g → mJ g → g 0 18 = g0 0 18 → g 0 2 = g0 0 2 → Ex (fX12_gaps_p286 fu k152 v2 v3 v4 v5 v6 v7 g L) (fun (r : Int32) (g1 : Nat → Nat → Int32) (L1 : Nat → Nat → Int64) => zI MT g1 ∧ mJ g1 ∧ g1 0 18 = g0 0 18 ∧ g1 0 2 = g0 0 2) := by
                          intro v6 g L hb_v2 hb_v4 hb_v5 hb_v7 hI hJ k0_0 k0_1
                          unfold fX12_gaps_p286
                          generalize z76q : (v7 + 1) = z76
                          have e77 : (Int32.toInt z76) = (Int32.toInt v7) + 1 := by rw [← z76q]; exact ic_addc rfl (by decide) (by omega) (by omega)
                          exact ih152 (v6, z76, g, L) ⟨(show (0 ≤ (Int32.toInt v2) ∧ (Int32.toInt v2) ≤ 11) from by omega), (show (0 ≤ (Int32.toInt v4) ∧ (Int32.toInt v4) ≤ 5) from by omega), (show (0 ≤ (Int32.toInt z76)) from by omega), hI, hJ, k0_0, k0_1⟩ (by show (Int32.toInt v5) - (Int32.toInt z76) < _; omega) (by omega)
                        have J233 : ∀ (v8 : Int32) (g : Nat → Nat → Int32) (L : Nat → Nat → Int64), (0 ≤ (Int32.toInt v2) ∧ (Int32.toInt v2) ≤ 11) → (0 ≤ (Int32.toInt v4) ∧ (Int32.toInt v4) ≤ 5) → (1 ≤ (Int32.toInt v5)) → ((-2147483647) ≤ (Int32.toInt v6)) → (0 ≤ (Int32.toInt v7) ∧ (Int32.toInt v7) ≤ 2147483646) → zI MT g → mJ g → g 0 18 = g0 0 18 → g 0 2 = g0 0 2 → Ex (fX12_gaps_p233 fu k152 v2 v3 v4 v5 v6 v7 v8 g L) (fun (r : Int32) (g1 : Nat → Nat → Int32) (L1 : Nat → Nat → Int64) => zI MT g1 ∧ mJ g1 ∧ g1 0 18 = g0 0 18 ∧ g1 0 2 = g0 0 2) := by
                          intro v8 g L hb_v2 hb_v4 hb_v5 hb_v6 hb_v7 hI hJ k0_0 k0_1
                          unfold fX12_gaps_p233
                          refine Ex.cb (sX12_works0 fu hfu g L hI hJ) (fun x78 g79 L80 hq82 => ?_)
                          obtain ⟨hI, hJ, kk0, kk1⟩ := hq82
                          have hI : zI MT g79 := hI
                          have hJ : mJ g79 := hJ
                          have k0_0 : g79 0 18 = g0 0 18 := kk0.trans k0_0
                          have k0_1 : g79 0 2 = g0 0 2 := kk1.trans k0_1
                          refine Ex.cb (sX12_late fu hfu v2 g79 L80 hI hJ (by omega)) (fun x83 g84 L85 hq87 => ?_)
                          obtain ⟨hI, hJ, kk0, kk1⟩ := hq87
                          have hI : zI MT g84 := hI
                          have hJ : mJ g84 := hJ
                          have k0_0 : g84 0 18 = g0 0 18 := kk0.trans k0_0
                          have k0_1 : g84 0 2 = g0 0 2 := kk1.trans k0_1
                          refine Ex.ite (fun c88 => ?_) (fun c88 => ?_)
                          ·
                            have rg89 := ic_rg x83
                            have rg90 := ic_rg v3
                            have c88 := icc_le (m := (Int32.toInt x83)) (n := (Int32.toInt v3)) rfl rfl c88
                            have lp256 : ∀ (v6 : Int32) (v10 : Int32) (g : Nat → Nat → Int32) (L : Nat → Nat → Int64), (0 ≤ (Int32.toInt v2) ∧ (Int32.toInt v2) ≤ 11) → (0 ≤ (Int32.toInt v4) ∧ (Int32.toInt v4) ≤ 5) → (1 ≤ (Int32.toInt v5)) → (0 ≤ (Int32.toInt v7) ∧ (Int32.toInt v7) ≤ 2147483646) → (0 ≤ (Int32.toInt v10) ∧ (Int32.toInt v10) ≤ 12) → zI MT g → mJ g → g 0 18 = g0 0 18 → g 0 2 = g0 0 2 → Ex (fX12_gaps_l256 fu k152 v2 v3 v4 v5 v6 v7 v10 g L) (fun (r : Int32) (g1 : Nat → Nat → Int32) (L1 : Nat → Nat → Int64) => zI MT g1 ∧ mJ g1 ∧ g1 0 18 = g0 0 18 ∧ g1 0 2 = g0 0 2) := by
                              intro v6 v10 g L hb_v2 hb_v4 hb_v5 hb_v7 hb_v10 hI hJ k0_0 k0_1
                              unfold fX12_gaps_l256
                              have rg91 := ic_rg v2
                              have rg92 := ic_rg v3
                              have rg93 := ic_rg v4
                              have rg94 := ic_rg v5
                              have rg95 := ic_rg v6
                              have rg96 := ic_rg v7
                              have rg97 := ic_rg v10
                              refine Ex.loop (fun v => ((0 ≤ (Int32.toInt v2) ∧ (Int32.toInt v2) ≤ 11)) ∧ ((0 ≤ (Int32.toInt v4) ∧ (Int32.toInt v4) ≤ 5)) ∧ ((1 ≤ (Int32.toInt v5))) ∧ ((0 ≤ (Int32.toInt v7) ∧ (Int32.toInt v7) ≤ 2147483646)) ∧ ((0 ≤ (Int32.toInt (v.1)) ∧ (Int32.toInt (v.1)) ≤ 12)) ∧ (zI MT (v.2.1)) ∧ (mJ (v.2.1)) ∧ ((v.2.1) 0 18 = g0 0 18) ∧ ((v.2.1) 0 2 = g0 0 2)) (fun v => 13 - (Int32.toInt (v.1))) (by omega) (by show 13 - (Int32.toInt v10) < (fu : Int); omega) ⟨hb_v2, hb_v4, hb_v5, hb_v7, hb_v10, hI, hJ, k0_0, k0_1⟩ (fun k256 v hv ih256 => ?_)
                              obtain ⟨v10, g, L⟩ := v
                              obtain ⟨hb_v2, hb_v4, hb_v5, hb_v7, hb_v10, hI, hJ, k0_0, k0_1⟩ := hv
                              have hb_v2 : (0 ≤ (Int32.toInt v2) ∧ (Int32.toInt v2) ≤ 11) := hb_v2
                              have hb_v4 : (0 ≤ (Int32.toInt v4) ∧ (Int32.toInt v4) ≤ 5) := hb_v4
                              have hb_v5 : (1 ≤ (Int32.toInt v5)) := hb_v5
                              have hb_v7 : (0 ≤ (Int32.toInt v7) ∧ (Int32.toInt v7) ≤ 2147483646) := hb_v7
                              have hb_v10 : (0 ≤ (Int32.toInt v10) ∧ (Int32.toInt v10) ≤ 12) := hb_v10
                              have hI : zI MT g := hI
                              have hJ : mJ g := hJ
                              have k0_0 : g 0 18 = g0 0 18 := k0_0
                              have k0_1 : g 0 2 = g0 0 2 := k0_1
                              have ih256 : ∀ v' : Int32 × (Nat → Nat → Int32) × (Nat → Nat → Int64), (((0 ≤ (Int32.toInt v2) ∧ (Int32.toInt v2) ≤ 11)) ∧ ((0 ≤ (Int32.toInt v4) ∧ (Int32.toInt v4) ≤ 5)) ∧ ((1 ≤ (Int32.toInt v5))) ∧ ((0 ≤ (Int32.toInt v7) ∧ (Int32.toInt v7) ≤ 2147483646)) ∧ ((0 ≤ (Int32.toInt (v'.1)) ∧ (Int32.toInt (v'.1)) ≤ 12)) ∧ (zI MT (v'.2.1)) ∧ (mJ (v'.2.1)) ∧ ((v'.2.1) 0 18 = g0 0 18) ∧ ((v'.2.1) 0 2 = g0 0 2)) → 13 - (Int32.toInt (v'.1)) < 13 - (Int32.toInt v10) → 0 < 13 - (Int32.toInt v10) → Ex (k256 v') (fun (r : Int32) (g1 : Nat → Nat → Int32) (L1 : Nat → Nat → Int64) => zI MT g1 ∧ mJ g1 ∧ g1 0 18 = g0 0 18 ∧ g1 0 2 = g0 0 2) := ih256
                              show Ex (fX12_gaps_s256 fu k152 v2 v3 v4 v5 v6 v7 k256 v10 g L) (fun (r : Int32) (g1 : Nat → Nat → Int32) (L1 : Nat → Nat → Int64) => zI MT g1 ∧ mJ g1 ∧ g1 0 18 = g0 0 18 ∧ g1 0 2 = g0 0 2)
                              unfold fX12_gaps_s256
                              refine Ex.ite (fun c98 => ?_) (fun c98 => ?_)
                              ·
                                have rg99 := ic_rg v10
                                have c98 := icc_le (m := 12) (n := (Int32.toInt v10)) (by decide) rfl c98
                                exact J286 v6 g L (by omega) (by omega) (by omega) (by omega) hI hJ k0_0 k0_1
                              ·
                                have rg100 := ic_rg v10
                                have c98 := icc_nle (m := 12) (n := (Int32.toInt v10)) (by decide) rfl c98
                                generalize z101q : (12 + v10) = z101
                                have e102 : (Int32.toInt z101) = 12 + (Int32.toInt v10) := by rw [← z101q]; exact ic_addc (by decide) rfl (by omega) (by omega)
                                refine Ex.ck (by omega) (by omega) ?_
                                refine Ex.ck (by omega) (by omega) ?_
                                refine Ex.sti (hI.updN rfl) (fun g103 g103e hI => ?_)
                                have k0_0 : g103 0 18 = g0 0 18 := by rw [g103e]; exact k0_0
                                have k0_1 : g103 0 2 = g0 0 2 := by rw [g103e]; exact k0_1
                                have hJ : mJ g103 := by rw [g103e]; exact mJ.upd hJ rfl
                                generalize z104q : (v10 + 1) = z104
                                have e105 : (Int32.toInt z104) = (Int32.toInt v10) + 1 := by rw [← z104q]; exact ic_addc rfl (by decide) (by omega) (by omega)
                                exact ih256 (z104, g103, L) ⟨(show (0 ≤ (Int32.toInt v2) ∧ (Int32.toInt v2) ≤ 11) from by omega), (show (0 ≤ (Int32.toInt v4) ∧ (Int32.toInt v4) ≤ 5) from by omega), (show (1 ≤ (Int32.toInt v5)) from by omega), (show (0 ≤ (Int32.toInt v7) ∧ (Int32.toInt v7) ≤ 2147483646) from by omega), (show (0 ≤ (Int32.toInt z104) ∧ (Int32.toInt z104) ≤ 12) from by omega), hI, hJ, k0_0, k0_1⟩ (by show 13 - (Int32.toInt z104) < _; omega) (by omega)
                            exact lp256 v8 0 g84 L85 (by omega) (by omega) (by omega) (by omega) (by decide) hI hJ k0_0 k0_1
                          ·
                            have rg106 := ic_rg x83
                            have rg107 := ic_rg v3
                            have c88 := icc_nle (m := (Int32.toInt x83)) (n := (Int32.toInt v3)) rfl rfl c88
                            exact J286 v6 g84 L85 (by omega) (by omega) (by omega) (by omega) hI hJ k0_0 k0_1
                        refine Ex.ite (fun c108 => ?_) (fun c108 => ?_)
                        ·
                          have rg109 := ic_rg v6
                          have c108 := icc_eq (m := (Int32.toInt v6)) (n := (-1)) rfl (by decide) c108
                          exact J233 v8 g L (by omega) (by omega) (by omega) (by omega) (by omega) hI hJ k0_0 k0_1
                        ·
                          have rg110 := ic_rg v6
                          have c108 := icc_neq (m := (Int32.toInt v6)) (n := (-1)) rfl (by decide) c108
                          refine Ex.ite (fun c111 => ?_) (fun c111 => ?_)
                          ·
                            have rg112 := ic_rg v8
                            have rg113 := ic_rg v6
                            have c111 := icc_lt (m := (Int32.toInt v8)) (n := (Int32.toInt v6)) rfl rfl c111
                            exact J233 v8 g L (by omega) (by omega) (by omega) (by omega) (by omega) hI hJ k0_0 k0_1
                          ·
                            have rg114 := ic_rg v8
                            have rg115 := ic_rg v6
                            have c111 := icc_nlt (m := (Int32.toInt v8)) (n := (Int32.toInt v6)) rfl rfl c111
                            exact J286 v6 g L (by omega) (by omega) (by omega) (by omega) hI hJ k0_0 k0_1
                      ·
                        have rg116 := ic_rg v10
                        have c74 := icc_nlt (m := (Int32.toInt v10)) (n := 0) rfl (by decide) c74
                        refine Ex.ck (by omega) (by omega) ?_
                        have b117 : 0 ≤ (Int32.toInt (g 40 (Int32.toNatClampNeg v10))) ∧ (Int32.toInt (g 40 (Int32.toNatClampNeg v10))) ≤ 11 := hI 40 _ 0 11 rfl
                        generalize z118q : (12 + (g 40 (Int32.toNatClampNeg v10))) = z118
                        have e119 : (Int32.toInt z118) = 12 + (Int32.toInt (g 40 (Int32.toNatClampNeg v10))) := by rw [← z118q]; exact ic_addc (by decide) rfl (by omega) (by omega)
                        refine Ex.cnz (by decide) ?_
                        generalize z120q : (v9 - v9 / 5 * 5) = z120
                        refine Ex.ck (by omega) (by omega) ?_
                        refine Ex.sti (hI.updN rfl) (fun g121 g121e hI => ?_)
                        have k0_0 : g121 0 18 = g0 0 18 := by rw [g121e]; exact k0_0
                        have k0_1 : g121 0 2 = g0 0 2 := by rw [g121e]; exact k0_1
                        have hJ : mJ g121 := by rw [g121e]; exact mJ.upd hJ rfl
                        refine Ex.cnz (by decide) ?_
                        generalize z122q : (v8 + z120) = z122
                        refine Ex.lti (fun x123 x123e x123i => ?_)
                        refine Ex.cnz (by decide) ?_
                        generalize z124q : (v9 / 5) = z124
                        refine Ex.lti (fun x125 x125e x125i => ?_)
                        generalize z126q : (v10 + (-1)) = z126
                        have e127 : (Int32.toInt z126) = (Int32.toInt v10) + (-1) := by rw [← z126q]; exact ic_addc rfl (by decide) (by omega) (by omega)
                        exact ih172 (x123, x125, z126, g121, L) ⟨(show (0 ≤ (Int32.toInt v2) ∧ (Int32.toInt v2) ≤ 11) from by omega), (show (0 ≤ (Int32.toInt v4) ∧ (Int32.toInt v4) ≤ 5) from by omega), (show (1 ≤ (Int32.toInt v5)) from by omega), (show (0 ≤ (Int32.toInt v7) ∧ (Int32.toInt v7) ≤ 2147483646) from by omega), (show ((-1) ≤ (Int32.toInt z126) ∧ (Int32.toInt z126) ≤ 4) from by omega), hI, hJ, k0_0, k0_1⟩ (by show (Int32.toInt z126) - (-2) < _; omega) (by omega)
                    exact lp172 0 v7 x64 g L (by omega) (by omega) (by omega) (by omega) (by omega) hI hJ k0_0 k0_1
                exact lp152 v2 v3 v4 v5 (-1) 0 g L (by omega) (by omega) (by decide) hI hJ k0_0 k0_1
              ·
                have rg128 := ic_rg v6
                have rg129 := ic_rg v4
                have c34 := icc_nle (m := (Int32.toInt v4)) (n := (Int32.toInt v6)) rfl rfl c34
                generalize z130q : (v5 * 5) = z130
                refine Ex.lti (fun x131 x131e x131i => ?_)
                generalize z132q : (v6 + 1) = z132
                have e133 : (Int32.toInt z132) = (Int32.toInt v6) + 1 := by rw [← z132q]; exact ic_addc rfl (by decide) (by omega) (by omega)
                exact ih127 (x131, z132, g, L) ⟨(show (0 ≤ (Int32.toInt v2) ∧ (Int32.toInt v2) ≤ 11) from by omega), (show (0 ≤ (Int32.toInt v4) ∧ (Int32.toInt v4) ≤ 5) from by omega), (show (0 ≤ (Int32.toInt z132) ∧ (Int32.toInt z132) ≤ 5) from by omega), hI, hJ, k0_0, k0_1⟩ (by show 6 - (Int32.toInt z132) < _; omega) (by omega)
            exact lp127 v2 v3 v4 1 0 g L (by omega) (by omega) (by decide) hI hJ k0_0 k0_1
          ·
            have rg134 := ic_rg v5
            have c27 := icc_nle (m := 12) (n := (Int32.toInt v5)) (by decide) rfl c27
            generalize z135q : (12 + v5) = z135
            have e136 : (Int32.toInt z135) = 12 + (Int32.toInt v5) := by rw [← z135q]; exact ic_addc (by decide) rfl (by omega) (by omega)
            refine Ex.ck (by omega) (by omega) ?_
            refine Ex.ck (by omega) (by omega) ?_
            refine Ex.sti (hI.updN rfl) (fun g137 g137e hI => ?_)
            have k0_0 : g137 0 18 = g0 0 18 := by rw [g137e]; exact k0_0
            have k0_1 : g137 0 2 = g0 0 2 := by rw [g137e]; exact k0_1
            have hJ : mJ g137 := by rw [g137e]; exact mJ.upd hJ rfl
            generalize z138q : ((v1 : Int32) >>> ((v5 : Int32) &&& 31) : Int32) = z138
            generalize z139q : (z138 &&& 1) = z139
            have b140 : 0 ≤ (Int32.toInt z139) ∧ (Int32.toInt z139) ≤ 1 := by rw [← z139q]; exact ic_and1 _
            have hm_ : pb1 v1 v5 = (Int32.toInt z139) := by unfold pb1; rw [z138q, z139q]
            have J115 : ∀ (v4 : Int32) (g : Nat → Nat → Int32) (L : Nat → Nat → Int64), (0 ≤ (Int32.toInt v2) ∧ (Int32.toInt v2) ≤ 11) → (0 ≤ (Int32.toInt v4) ∧ (Int32.toInt v4) ≤ 5) → (0 ≤ (Int32.toInt v5) ∧ (Int32.toInt v5) ≤ 11) → ((Int32.toInt v4) = pbs v1 (Int32.toNatClampNeg v5) + pb1 v1 v5) → (pbs v1 12 ≤ 5) → zI MT g → mJ g → g 0 18 = g0 0 18 → g 0 2 = g0 0 2 → Ex (fX12_gaps_p115 fu k67 v1 v2 v3 v4 v5 g L) (fun (r : Int32) (g1 : Nat → Nat → Int32) (L1 : Nat → Nat → Int64) => zI MT g1 ∧ mJ g1 ∧ g1 0 18 = g0 0 18 ∧ g1 0 2 = g0 0 2) := by
              intro v4 g L hb_v2 hb_v4 hb_v5 hn_0 hn_1 hI hJ k0_0 k0_1
              unfold fX12_gaps_p115
              generalize z141q : (v5 + 1) = z141
              have e142 : (Int32.toInt z141) = (Int32.toInt v5) + 1 := by rw [← z141q]; exact ic_addc rfl (by decide) (by omega) (by omega)
              have hn_ : (Int32.toNatClampNeg z141) = (Int32.toNatClampNeg v5) + 1 := by rw [nc, nc]; omega
              have hm_ : pbs v1 (Int32.toNatClampNeg z141) = pbs v1 (Int32.toNatClampNeg v5) + pb1 v1 v5 := by rw [hn_]; exact pbs_succ (by omega)
              clear hn_
              exact ih67 (v4, z141, g, L) ⟨(show (0 ≤ (Int32.toInt v2) ∧ (Int32.toInt v2) ≤ 11) from by omega), (show (0 ≤ (Int32.toInt v4) ∧ (Int32.toInt v4) ≤ 5) from by omega), (show (0 ≤ (Int32.toInt z141) ∧ (Int32.toInt z141) ≤ 12) from by omega), (show ((Int32.toInt v4) = pbs v1 (Int32.toNatClampNeg z141)) from by omega), (show (pbs v1 12 ≤ 5) from by omega), hI, hJ, k0_0, k0_1⟩ (by show 13 - (Int32.toInt z141) < _; omega) (by omega)
            refine Ex.ite (fun c143 => ?_) (fun c143 => ?_)
            ·
              have rg144 := ic_rg z139
              have c143 := icc_eq (m := (Int32.toInt z139)) (n := 0) rfl (by decide) c143
              exact J115 v4 g137 L (by omega) (by omega) (by omega) (by omega) (by omega) hI hJ k0_0 k0_1
            ·
              have rg145 := ic_rg z139
              have c143 := icc_neq (m := (Int32.toInt z139)) (n := 0) rfl (by decide) c143
              have hm_ := pbs_succ (s := v1) (v := v5) (by omega)
              have hm2_ := pbs_le (s := v1) (k := (Int32.toNatClampNeg v5) + 1) (by rw [nc]; omega)
              refine Ex.ck (by omega) (by omega) ?_
              refine Ex.sti (hI.upd rfl (by omega) (by omega)) (fun g146 g146e hI => ?_)
              have k0_0 : g146 0 18 = g0 0 18 := by rw [g146e]; exact k0_0
              have k0_1 : g146 0 2 = g0 0 2 := by rw [g146e]; exact k0_1
              have hJ : mJ g146 := by rw [g146e]; exact mJ.upd hJ rfl
              generalize z147q : (v4 + 1) = z147
              have e148 : (Int32.toInt z147) = (Int32.toInt v4) + 1 := by rw [← z147q]; exact ic_addc rfl (by decide) (by omega) (by omega)
              exact J115 z147 g146 L (by omega) (by omega) (by omega) (by omega) (by omega) hI hJ k0_0 k0_1
        have hc_ : (0 : Int32).toInt = 0 := by decide
        exact lp67 v1 v2 v3 0 0 g13 L14 (by omega) (by decide) (by decide) (by omega) (by omega) hI hJ k0_0 k0_1
    have J51 : ∀ (v1 : Int32) (v2 : Int32) (v3 : Int32) (g : Nat → Nat → Int32) (L : Nat → Nat → Int64), (0 ≤ (Int32.toInt v2) ∧ (Int32.toInt v2) ≤ 11) → zI MT g → mJ g → g 0 18 = g0 0 18 → g 0 2 = g0 0 2 → Ex (fX12_gaps_p51 fu v1 v2 v3 g L) (fun (r : Int32) (g1 : Nat → Nat → Int32) (L1 : Nat → Nat → Int64) => zI MT g1 ∧ mJ g1 ∧ g1 0 18 = g0 0 18 ∧ g1 0 2 = g0 0 2) := by
      intro v1 v2 v3 g L hb_v2 hI hJ k0_0 k0_1
      unfold fX12_gaps_p51
      have hc_ : (0 : Int32).toInt = 0 := by decide
      exact J52 v1 v2 v3 0 g L (by omega) (by decide) (by omega) hI hJ k0_0 k0_1
    refine Ex.ite (fun c149 => ?_) (fun c149 => ?_)
    ·
      have rg150 := ic_rg p1
      have c149 := icc_lt (m := (Int32.toInt p1)) (n := 0) rfl (by decide) c149
      exact J51 p1 p2 p3 g3 L4 (by omega) hI hJ k0_0 k0_1
    ·
      have rg151 := ic_rg p1
      have c149 := icc_nlt (m := (Int32.toInt p1)) (n := 0) rfl (by decide) c149
      have b152 : 0 ≤ (Int32.toInt (g3 0 1)) ∧ (Int32.toInt (g3 0 1)) ≤ 12 := hI 0 1 0 12 rfl
      generalize z153q : ((1 : Int32) <<< (((g3 0 1) : Int32) &&& 31) : Int32) = z153
      refine Ex.ite (fun c154 => ?_) (fun c154 => ?_)
      ·
        have rg155 := ic_rg p1
        have rg156 := ic_rg z153
        have c154 := icc_le (m := (Int32.toInt z153)) (n := (Int32.toInt p1)) rfl rfl c154
        exact J51 p1 p2 p3 g3 L4 (by omega) hI hJ k0_0 k0_1
      ·
        have rg157 := ic_rg p1
        have rg158 := ic_rg z153
        have c154 := icc_nle (m := (Int32.toInt z153)) (n := (Int32.toInt p1)) rfl rfl c154
        refine Ex.cb (tX12_bits fu hfu p1 g3 L4 hI hJ) (fun x159 g160 L161 hq163 => ?_)
        obtain ⟨hI, hJ, kk0, kk1, lp0_⟩ := hq163
        have lp164 : (Int32.toInt x159) = pbs p1 12 := lp0_
        have hI : zI MT g160 := hI
        have hJ : mJ g160 := hJ
        have k0_0 : g160 0 18 = g0 0 18 := kk0.trans k0_0
        have k0_1 : g160 0 2 = g0 0 2 := kk1.trans k0_1
        refine Ex.ite (fun c165 => ?_) (fun c165 => ?_)
        ·
          have rg166 := ic_rg x159
          have c165 := icc_lt (m := 5) (n := (Int32.toInt x159)) (by decide) rfl c165
          exact J51 p1 p2 p3 g160 L161 (by omega) hI hJ k0_0 k0_1
        ·
          have rg167 := ic_rg x159
          have c165 := icc_nlt (m := 5) (n := (Int32.toInt x159)) (by decide) rfl c165
          refine Ex.cb (sX12_within fu hfu p3 0 999 g160 L161 hI hJ) (fun x168 g169 L170 hq172 => ?_)
          obtain ⟨hI, hJ, kk0, kk1, kk2, kk3, kk4, rb_, ip0⟩ := hq172
          have b173 : 0 ≤ (Int32.toInt x168) ∧ (Int32.toInt x168) ≤ 1 := rb_
          have ip174 : (Int32.toInt x168) = 1 → 0 ≤ (Int32.toInt p3) ∧ (Int32.toInt p3) ≤ 999 := ip0
          have hI : zI MT g169 := hI
          have hJ : mJ g169 := hJ
          have k0_0 : g169 0 18 = g0 0 18 := kk3.trans k0_0
          have k0_1 : g169 0 2 = g0 0 2 := kk4.trans k0_1
          refine Ex.ite (fun c175 => ?_) (fun c175 => ?_)
          ·
            have rg176 := ic_rg x168
            have c175 := icc_eq (m := (Int32.toInt x168)) (n := 0) rfl (by decide) c175
            exact J51 p1 p2 p3 g169 L170 (by omega) hI hJ k0_0 k0_1
          ·
            have rg177 := ic_rg x168
            have c175 := icc_neq (m := (Int32.toInt x168)) (n := 0) rfl (by decide) c175
            have hc_ : (1 : Int32).toInt = 1 := by decide
            exact J52 p1 p2 p3 1 g169 L170 (by omega) (by decide) (by omega) hI hJ k0_0 k0_1
