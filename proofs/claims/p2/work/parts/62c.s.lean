set_option maxHeartbeats 4000000 in
set_option maxRecDepth 100000 in
theorem sX8_joined (fu : Nat) (hfu : 1099511627776 ≤ fu) (p1 : Int32) (p2 : Int32) (p3 : Int32) (g0 : Nat → Nat → Int32) (L0 : Nat → Nat → Int64) (hI : zI XT g0) : Ex (fX8_joined fu p1 p2 p3 g0 L0) (fun (r : Int32) (g1 : Nat → Nat → Int32) (L1 : Nat → Nat → Int64) => zI XT g1 ∧ g1 0 13 = g0 0 13) := by
  have k0_0 : g0 0 13 = g0 0 13 := rfl
  unfold fX8_joined
  refine Ex.ite (fun c1 => ?_) (fun c1 => ?_)
  ·
    have J103 : ∀ (t0 : Int32) (g : Nat → Nat → Int32) (L : Nat → Nat → Int64), (0 ≤ (Int32.toInt t0) ∧ (Int32.toInt t0) ≤ 1) → zI XT g → g 0 13 = g0 0 13 → Ex (fX8_joined_p103 fu t0 g L) (fun (r : Int32) (g1 : Nat → Nat → Int32) (L1 : Nat → Nat → Int64) => zI XT g1 ∧ g1 0 13 = g0 0 13) := by
      intro t0 g L hb_t0 hI k0_0
      unfold fX8_joined_p103
      exact Ex.ret ⟨hI, k0_0⟩
    have J102 : ∀ (g : Nat → Nat → Int32) (L : Nat → Nat → Int64), zI XT g → g 0 13 = g0 0 13 → Ex (fX8_joined_p102 fu g L) (fun (r : Int32) (g1 : Nat → Nat → Int32) (L1 : Nat → Nat → Int64) => zI XT g1 ∧ g1 0 13 = g0 0 13) := by
      intro g L hI k0_0
      unfold fX8_joined_p102
      exact J103 0 g L (by decide) hI k0_0
    refine Ex.ite (fun c2 => ?_) (fun c2 => ?_)
    ·
      have c2 := icc_eq (m := (Int32.toInt p2)) (n := 0) rfl (by decide) c2
      exact J102 g0 L0 hI k0_0
    ·
      have c2 := icc_neq (m := (Int32.toInt p2)) (n := 0) rfl (by decide) c2
      refine Ex.ite (fun c3 => ?_) (fun c3 => ?_)
      ·
        have c3 := icc_eq (m := (Int32.toInt p3)) (n := 0) rfl (by decide) c3
        exact J102 g0 L0 hI k0_0
      ·
        have c3 := icc_neq (m := (Int32.toInt p3)) (n := 0) rfl (by decide) c3
        exact J103 1 g0 L0 (by decide) hI k0_0
  ·
    refine Ex.ite (fun c4 => ?_) (fun c4 => ?_)
    ·
      have J89 : ∀ (t0 : Int32) (g : Nat → Nat → Int32) (L : Nat → Nat → Int64), (0 ≤ (Int32.toInt t0) ∧ (Int32.toInt t0) ≤ 1) → zI XT g → g 0 13 = g0 0 13 → Ex (fX8_joined_p89 fu t0 g L) (fun (r : Int32) (g1 : Nat → Nat → Int32) (L1 : Nat → Nat → Int64) => zI XT g1 ∧ g1 0 13 = g0 0 13) := by
        intro t0 g L hb_t0 hI k0_0
        unfold fX8_joined_p89
        exact Ex.ret ⟨hI, k0_0⟩
      refine Ex.ite (fun c5 => ?_) (fun c5 => ?_)
      ·
        have c5 := icc_eq (m := (Int32.toInt p2)) (n := (Int32.toInt p3)) rfl rfl c5
        exact J89 1 g0 L0 (by decide) hI k0_0
      ·
        have c5 := icc_neq (m := (Int32.toInt p2)) (n := (Int32.toInt p3)) rfl rfl c5
        exact J89 0 g0 L0 (by decide) hI k0_0
    ·
      refine Ex.ite (fun c6 => ?_) (fun c6 => ?_)
      ·
        have J78 : ∀ (t0 : Int32) (g : Nat → Nat → Int32) (L : Nat → Nat → Int64), (0 ≤ (Int32.toInt t0) ∧ (Int32.toInt t0) ≤ 1) → zI XT g → g 0 13 = g0 0 13 → Ex (fX8_joined_p78 fu t0 g L) (fun (r : Int32) (g1 : Nat → Nat → Int32) (L1 : Nat → Nat → Int64) => zI XT g1 ∧ g1 0 13 = g0 0 13) := by
          intro t0 g L hb_t0 hI k0_0
          unfold fX8_joined_p78
          exact Ex.ret ⟨hI, k0_0⟩
        refine Ex.ite (fun c7 => ?_) (fun c7 => ?_)
        ·
          have c7 := icc_le (m := (Int32.toInt p3)) (n := (Int32.toInt p2)) rfl rfl c7
          exact J78 0 g0 L0 (by decide) hI k0_0
        ·
          have c7 := icc_nle (m := (Int32.toInt p3)) (n := (Int32.toInt p2)) rfl rfl c7
          exact J78 1 g0 L0 (by decide) hI k0_0
      ·
        refine Ex.ite (fun c8 => ?_) (fun c8 => ?_)
        ·
          have J67 : ∀ (t0 : Int32) (g : Nat → Nat → Int32) (L : Nat → Nat → Int64), zI XT g → g 0 13 = g0 0 13 → Ex (fX8_joined_p67 fu t0 g L) (fun (r : Int32) (g1 : Nat → Nat → Int32) (L1 : Nat → Nat → Int64) => zI XT g1 ∧ g1 0 13 = g0 0 13) := by
            intro t0 g L hI k0_0
            unfold fX8_joined_p67
            exact Ex.ret ⟨hI, k0_0⟩
          refine Ex.ite (fun c9 => ?_) (fun c9 => ?_)
          ·
            have c9 := icc_eq (m := (Int32.toInt p3)) (n := 0) rfl (by decide) c9
            exact J67 0 g0 L0 hI k0_0
          ·
            have c9 := icc_neq (m := (Int32.toInt p3)) (n := 0) rfl (by decide) c9
            refine Ex.cnz (fun h_ => absurd (icc_eq (n := 0) rfl (by decide) h_) (by omega)) ?_
            generalize z10q : (p2 / p3) = z10
            exact J67 z10 g0 L0 hI k0_0
        ·
          refine Ex.ite (fun c11 => ?_) (fun c11 => ?_)
          ·
            generalize z12q : (p2 * p3) = z12
            exact Ex.ret ⟨hI, k0_0⟩
          ·
            refine Ex.ite (fun c13 => ?_) (fun c13 => ?_)
            ·
              generalize z14q : (p2 - p3) = z14
              exact Ex.ret ⟨hI, k0_0⟩
            ·
              refine Ex.ite (fun c15 => ?_) (fun c15 => ?_)
              ·
                generalize z16q : (p2 + p3) = z16
                exact Ex.ret ⟨hI, k0_0⟩
              ·
                have J117 : ∀ (t0 : Int32) (g : Nat → Nat → Int32) (L : Nat → Nat → Int64), (0 ≤ (Int32.toInt t0) ∧ (Int32.toInt t0) ≤ 1) → zI XT g → g 0 13 = g0 0 13 → Ex (fX8_joined_p117 fu t0 g L) (fun (r : Int32) (g1 : Nat → Nat → Int32) (L1 : Nat → Nat → Int64) => zI XT g1 ∧ g1 0 13 = g0 0 13) := by
                  intro t0 g L hb_t0 hI k0_0
                  unfold fX8_joined_p117
                  exact Ex.ret ⟨hI, k0_0⟩
                have J112 : ∀ (g : Nat → Nat → Int32) (L : Nat → Nat → Int64), zI XT g → g 0 13 = g0 0 13 → Ex (fX8_joined_p112 fu g L) (fun (r : Int32) (g1 : Nat → Nat → Int32) (L1 : Nat → Nat → Int64) => zI XT g1 ∧ g1 0 13 = g0 0 13) := by
                  intro g L hI k0_0
                  unfold fX8_joined_p112
                  exact J117 1 g L (by decide) hI k0_0
                refine Ex.ite (fun c17 => ?_) (fun c17 => ?_)
                ·
                  have c17 := icc_eq (m := (Int32.toInt p2)) (n := 0) rfl (by decide) c17
                  refine Ex.ite (fun c18 => ?_) (fun c18 => ?_)
                  ·
                    have c18 := icc_eq (m := (Int32.toInt p3)) (n := 0) rfl (by decide) c18
                    exact J117 0 g0 L0 (by decide) hI k0_0
                  ·
                    have c18 := icc_neq (m := (Int32.toInt p3)) (n := 0) rfl (by decide) c18
                    exact J112 g0 L0 hI k0_0
                ·
                  have c17 := icc_neq (m := (Int32.toInt p2)) (n := 0) rfl (by decide) c17
                  exact J112 g0 L0 hI k0_0
