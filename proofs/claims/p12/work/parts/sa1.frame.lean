/-! ===== frames ===== -/
abbrev wA_fX12_right : List (Nat × Nat) := [(0, 0)]
abbrev wB_fX12_right : List Nat := []
theorem w_fX12_right_p28 (g0 : gT) (fu : Nat) (t0 : Int32) (g : gT) (L : lT) (h_g : FW wA_fX12_right wB_fX12_right g0 g) : Kp wA_fX12_right wB_fX12_right g0 (fX12_right_p28 fu t0 g L) := by
  unfold fX12_right_p28
  refine kp_ckb ?_
  exact kp_some h_g
theorem w_fX12_right_p16 (g0 : gT) (fu : Nat) (g : gT) (L : lT) (h_g : FW wA_fX12_right wB_fX12_right g0 g) : Kp wA_fX12_right wB_fX12_right g0 (fX12_right_p16 fu g L) := by
  unfold fX12_right_p16
  refine kp_ite ?_ ?_
  ·
    exact w_fX12_right_p28 _ _ _ _ _ h_g
  ·
    exact w_fX12_right_p28 _ _ _ _ _ h_g
theorem w_fX12_right (g0 : gT) (fu : Nat) (p1 : Int32) (p2 : Int32) (g : gT) (L : lT) (h_g : FW wA_fX12_right wB_fX12_right g0 g) : Kp wA_fX12_right wB_fX12_right g0 (fX12_right fu p1 p2 g L) := by
  unfold fX12_right
  refine kp_ite ?_ ?_
  ·
    refine kp_ite ?_ ?_
    ·
      refine kp_stF (by decide) h_g (fun g4 h_g4 => ?_)
      exact w_fX12_right_p16 _ _ _ _ h_g4
    ·
      exact w_fX12_right_p16 _ _ _ _ h_g
  ·
    exact w_fX12_right_p16 _ _ _ _ h_g
abbrev wA_fX12_fault : List (Nat × Nat) := [(0, 0)]
abbrev wB_fX12_fault : List Nat := []
theorem w_fX12_fault (g0 : gT) (fu : Nat) (g : gT) (L : lT) (h_g : FW wA_fX12_fault wB_fX12_fault g0 g) : Kp wA_fX12_fault wB_fX12_fault g0 (fX12_fault fu g L) := by
  unfold fX12_fault
  refine kp_stF (by decide) h_g (fun g1 h_g1 => ?_)
  exact kp_some h_g1
abbrev wA_fX12_works : List (Nat × Nat) := []
abbrev wB_fX12_works : List Nat := []
theorem w_fX12_works_p57 (g0 : gT) (fu : Nat) (t0 : Int32) (g : gT) (L : lT) (h_g : FW wA_fX12_works wB_fX12_works g0 g) : Kp wA_fX12_works wB_fX12_works g0 (fX12_works_p57 fu t0 g L) := by
  unfold fX12_works_p57
  exact kp_some h_g
theorem w_fX12_works_p56 (g0 : gT) (fu : Nat) (g : gT) (L : lT) (h_g : FW wA_fX12_works wB_fX12_works g0 g) : Kp wA_fX12_works wB_fX12_works g0 (fX12_works_p56 fu g L) := by
  unfold fX12_works_p56
  exact w_fX12_works_p57 _ _ _ _ _ h_g
theorem w_fX12_works_p71 (g0 : gT) (fu : Nat) (t0 : Int32) (g : gT) (L : lT) (h_g : FW wA_fX12_works wB_fX12_works g0 g) : Kp wA_fX12_works wB_fX12_works g0 (fX12_works_p71 fu t0 g L) := by
  unfold fX12_works_p71
  exact kp_some h_g
theorem w_fX12_works_p66 (g0 : gT) (fu : Nat) (g : gT) (L : lT) (h_g : FW wA_fX12_works wB_fX12_works g0 g) : Kp wA_fX12_works wB_fX12_works g0 (fX12_works_p66 fu g L) := by
  unfold fX12_works_p66
  exact w_fX12_works_p71 _ _ _ _ _ h_g
theorem w_fX12_works_p82 (g0 : gT) (fu : Nat) (t0 : Int32) (g : gT) (L : lT) (h_g : FW wA_fX12_works wB_fX12_works g0 g) : Kp wA_fX12_works wB_fX12_works g0 (fX12_works_p82 fu t0 g L) := by
  unfold fX12_works_p82
  exact kp_some h_g
theorem w_fX12_works_p93 (g0 : gT) (fu : Nat) (t0 : Int32) (g : gT) (L : lT) (h_g : FW wA_fX12_works wB_fX12_works g0 g) : Kp wA_fX12_works wB_fX12_works g0 (fX12_works_p93 fu t0 g L) := by
  unfold fX12_works_p93
  exact kp_some h_g
theorem w_fX12_works_p117 (g0 : gT) (fu : Nat) (t0 : Int32) (g : gT) (L : lT) (h_g : FW wA_fX12_works wB_fX12_works g0 g) : Kp wA_fX12_works wB_fX12_works g0 (fX12_works_p117 fu t0 g L) := by
  unfold fX12_works_p117
  exact kp_some h_g
theorem w_fX12_works (g0 : gT) (fu : Nat) (p1 : Int32) (p2 : Int32) (p3 : Int32) (g : gT) (L : lT) (h_g : FW wA_fX12_works wB_fX12_works g0 g) : Kp wA_fX12_works wB_fX12_works g0 (fX12_works fu p1 p2 p3 g L) := by
  unfold fX12_works
  refine kp_ite ?_ ?_
  ·
    refine kp_ite ?_ ?_
    ·
      exact w_fX12_works_p56 _ _ _ _ h_g
    ·
      refine kp_ite ?_ ?_
      ·
        exact w_fX12_works_p56 _ _ _ _ h_g
      ·
        exact w_fX12_works_p57 _ _ _ _ _ h_g
  ·
    refine kp_ite ?_ ?_
    ·
      refine kp_ite ?_ ?_
      ·
        refine kp_ite ?_ ?_
        ·
          exact w_fX12_works_p71 _ _ _ _ _ h_g
        ·
          exact w_fX12_works_p66 _ _ _ _ h_g
      ·
        exact w_fX12_works_p66 _ _ _ _ h_g
    ·
      refine kp_ite ?_ ?_
      ·
        refine kp_ite ?_ ?_
        ·
          exact w_fX12_works_p82 _ _ _ _ _ h_g
        ·
          exact w_fX12_works_p82 _ _ _ _ _ h_g
      ·
        refine kp_ite ?_ ?_
        ·
          refine kp_ite ?_ ?_
          ·
            exact w_fX12_works_p93 _ _ _ _ _ h_g
          ·
            exact w_fX12_works_p93 _ _ _ _ _ h_g
        ·
          refine kp_ite ?_ ?_
          ·
            exact kp_some h_g
          ·
            refine kp_ite ?_ ?_
            ·
              exact kp_some h_g
            ·
              refine kp_ite ?_ ?_
              ·
                exact kp_some h_g
              ·
                refine kp_ite ?_ ?_
                ·
                  exact w_fX12_works_p117 _ _ _ _ _ h_g
                ·
                  refine kp_cnz ?_
                  exact w_fX12_works_p117 _ _ _ _ _ h_g
abbrev wA_fX12_reckons : List (Nat × Nat) := []
abbrev wB_fX12_reckons : List Nat := [30]
theorem w_fX12_reckons_p140 (g0 : gT) (fu : Nat) (k4 : Int32 × Int32 × gT × lT → Option ((Int32) × zS)) (v2 : Int32) (v3 : Int32) (g : gT) (L : lT) (hk4 : ∀ v : Int32 × Int32 × gT × lT, FW wA_fX12_reckons wB_fX12_reckons g0 (v.2.2.1) → Kp wA_fX12_reckons wB_fX12_reckons g0 (k4 v)) (h_g : FW wA_fX12_reckons wB_fX12_reckons g0 g) : Kp wA_fX12_reckons wB_fX12_reckons g0 (fX12_reckons_p140 fu k4 v2 v3 g L) := by
  unfold fX12_reckons_p140
  exact hk4 _ h_g
theorem w_fX12_reckons_p67 (g0 : gT) (fu : Nat) (k4 : Int32 × Int32 × gT × lT → Option ((Int32) × zS)) (v2 : Int32) (v3 : Int32) (t0 : Int32) (t1 : Int32) (g : gT) (L : lT) (hk4 : ∀ v : Int32 × Int32 × gT × lT, FW wA_fX12_reckons wB_fX12_reckons g0 (v.2.2.1) → Kp wA_fX12_reckons wB_fX12_reckons g0 (k4 v)) (h_g : FW wA_fX12_reckons wB_fX12_reckons g0 g) : Kp wA_fX12_reckons wB_fX12_reckons g0 (fX12_reckons_p67 fu k4 v2 v3 t0 t1 g L) := by
  unfold fX12_reckons_p67
  refine kp_ck ?_
  refine kp_stB (by decide) h_g (fun g3 h_g3 => ?_)
  exact w_fX12_reckons_p140 _ _ _ _ _ _ _ hk4 h_g3
theorem w_fX12_reckons_p36 (g0 : gT) (fu : Nat) (k4 : Int32 × Int32 × gT × lT → Option ((Int32) × zS)) (v2 : Int32) (v3 : Int32) (v4 : Int32) (g : gT) (L : lT) (hk4 : ∀ v : Int32 × Int32 × gT × lT, FW wA_fX12_reckons wB_fX12_reckons g0 (v.2.2.1) → Kp wA_fX12_reckons wB_fX12_reckons g0 (k4 v)) (h_g : FW wA_fX12_reckons wB_fX12_reckons g0 g) : Kp wA_fX12_reckons wB_fX12_reckons g0 (fX12_reckons_p36 fu k4 v2 v3 v4 g L) := by
  unfold fX12_reckons_p36
  refine kp_ite ?_ ?_
  ·
    refine kp_ck ?_
    exact w_fX12_reckons_p67 _ _ _ _ _ _ _ _ _ hk4 h_g
  ·
    refine kp_ck ?_
    refine kp_ck ?_
    exact w_fX12_reckons_p67 _ _ _ _ _ _ _ _ _ hk4 h_g
theorem w_fX12_reckons_p106 (g0 : gT) (fu : Nat) (k4 : Int32 × Int32 × gT × lT → Option ((Int32) × zS)) (v2 : Int32) (v3 : Int32) (t0 : Int32) (t1 : Int32) (g : gT) (L : lT) (hk4 : ∀ v : Int32 × Int32 × gT × lT, FW wA_fX12_reckons wB_fX12_reckons g0 (v.2.2.1) → Kp wA_fX12_reckons wB_fX12_reckons g0 (k4 v)) (h_g : FW wA_fX12_reckons wB_fX12_reckons g0 g) : Kp wA_fX12_reckons wB_fX12_reckons g0 (fX12_reckons_p106 fu k4 v2 v3 t0 t1 g L) := by
  unfold fX12_reckons_p106
  refine kp_ck ?_
  refine kp_stB (by decide) h_g (fun g13 h_g13 => ?_)
  exact w_fX12_reckons_p140 _ _ _ _ _ _ _ hk4 h_g13
theorem w_fX12_reckons_s4 (g0 : gT) (fu : Nat) (k4 : Int32 × Int32 × gT × lT → Option ((Int32) × zS)) (v2 : Int32) (v3 : Int32) (g : gT) (L : lT) (hk4 : ∀ v : Int32 × Int32 × gT × lT, FW wA_fX12_reckons wB_fX12_reckons g0 (v.2.2.1) → Kp wA_fX12_reckons wB_fX12_reckons g0 (k4 v)) (h_g : FW wA_fX12_reckons wB_fX12_reckons g0 g) : Kp wA_fX12_reckons wB_fX12_reckons g0 (fX12_reckons_s4 fu k4 v2 v3 g L) := by
  unfold fX12_reckons_s4
  refine kp_ck ?_
  refine kp_ite ?_ ?_
  ·
    refine kp_ck ?_
    exact kp_some h_g
  ·
    refine kp_ck ?_
    refine kp_lti (fun x2 => ?_)
    refine kp_ite ?_ ?_
    ·
      exact w_fX12_reckons_p36 _ _ _ _ _ _ _ _ hk4 h_g
    ·
      refine kp_ite ?_ ?_
      ·
        exact w_fX12_reckons_p36 _ _ _ _ _ _ _ _ hk4 h_g
      ·
        refine kp_ite ?_ ?_
        ·
          refine kp_ck ?_
          refine kp_ite ?_ ?_
          ·
            exact w_fX12_reckons_p106 _ _ _ _ _ _ _ _ _ hk4 h_g
          ·
            exact w_fX12_reckons_p106 _ _ _ _ _ _ _ _ _ hk4 h_g
        ·
          refine kp_ck ?_
          refine kp_ck ?_
          refine kp_cb (w_fX12_works _ _ _ _ _ _ _ FW.refl) rfl rfl h_g (fun x8 g9 L10 h_g9 => ?_)
          refine kp_ck ?_
          refine kp_stB (by decide) h_g9 (fun g12 h_g12 => ?_)
          exact w_fX12_reckons_p140 _ _ _ _ _ _ _ hk4 h_g12
theorem w_fX12_reckons_l4 (g0 : gT) (fu : Nat) (v2 : Int32) (v3 : Int32) (g : gT) (L : lT) (h_g : FW wA_fX12_reckons wB_fX12_reckons g0 g) : Kp wA_fX12_reckons wB_fX12_reckons g0 (fX12_reckons_l4 fu v2 v3 g L) := by
  unfold fX12_reckons_l4
  exact kp_loop (fun v => v.2.2.1) (fun k_ hk_ v hv_ => w_fX12_reckons_s4 _ _ _ _ _ _ _ hk_ hv_) h_g
theorem w_fX12_reckons (g0 : gT) (fu : Nat) (p1 : Int32) (g : gT) (L : lT) (h_g : FW wA_fX12_reckons wB_fX12_reckons g0 g) : Kp wA_fX12_reckons wB_fX12_reckons g0 (fX12_reckons fu p1 g L) := by
  unfold fX12_reckons
  exact w_fX12_reckons_l4 _ _ _ _ _ _ h_g
abbrev wA_fX12_off : List (Nat × Nat) := []
abbrev wB_fX12_off : List Nat := []
theorem w_fX12_off_p14 (g0 : gT) (fu : Nat) (t0 : Int32) (g : gT) (L : lT) (h_g : FW wA_fX12_off wB_fX12_off g0 g) : Kp wA_fX12_off wB_fX12_off g0 (fX12_off_p14 fu t0 g L) := by
  unfold fX12_off_p14
  exact kp_some h_g
theorem w_fX12_off (g0 : gT) (fu : Nat) (p1 : Int32) (p2 : Int32) (g : gT) (L : lT) (h_g : FW wA_fX12_off wB_fX12_off g0 g) : Kp wA_fX12_off wB_fX12_off g0 (fX12_off fu p1 p2 g L) := by
  unfold fX12_off
  refine kp_ite ?_ ?_
  ·
    exact w_fX12_off_p14 _ _ _ _ _ h_g
  ·
    exact w_fX12_off_p14 _ _ _ _ _ h_g
abbrev wA_fX12_isStair : List (Nat × Nat) := []
abbrev wB_fX12_isStair : List Nat := []
theorem w_fX12_isStair_p28 (g0 : gT) (fu : Nat) (t0 : Int32) (g : gT) (L : lT) (h_g : FW wA_fX12_isStair wB_fX12_isStair g0 g) : Kp wA_fX12_isStair wB_fX12_isStair g0 (fX12_isStair_p28 fu t0 g L) := by
  unfold fX12_isStair_p28
  refine kp_ckb ?_
  exact kp_some h_g
theorem w_fX12_isStair_p20 (g0 : gT) (fu : Nat) (t0 : Int32) (t1 : Int32) (g : gT) (L : lT) (h_g : FW wA_fX12_isStair wB_fX12_isStair g0 g) : Kp wA_fX12_isStair wB_fX12_isStair g0 (fX12_isStair_p20 fu t0 t1 g L) := by
  unfold fX12_isStair_p20
  refine kp_ite ?_ ?_
  ·
    exact w_fX12_isStair_p28 _ _ _ _ _ h_g
  ·
    exact w_fX12_isStair_p28 _ _ _ _ _ h_g
theorem w_fX12_isStair_p10 (g0 : gT) (fu : Nat) (v1 : Int32) (t0 : Int32) (g : gT) (L : lT) (h_g : FW wA_fX12_isStair wB_fX12_isStair g0 g) : Kp wA_fX12_isStair wB_fX12_isStair g0 (fX12_isStair_p10 fu v1 t0 g L) := by
  unfold fX12_isStair_p10
  refine kp_ite ?_ ?_
  ·
    exact w_fX12_isStair_p20 _ _ _ _ _ _ h_g
  ·
    exact w_fX12_isStair_p20 _ _ _ _ _ _ h_g
theorem w_fX12_isStair (g0 : gT) (fu : Nat) (p1 : Int32) (p2 : Int32) (g : gT) (L : lT) (h_g : FW wA_fX12_isStair wB_fX12_isStair g0 g) : Kp wA_fX12_isStair wB_fX12_isStair g0 (fX12_isStair fu p1 p2 g L) := by
  unfold fX12_isStair
  refine kp_ite ?_ ?_
  ·
    exact w_fX12_isStair_p10 _ _ _ _ _ _ h_g
  ·
    exact w_fX12_isStair_p10 _ _ _ _ _ _ h_g
abbrev wA_fX12_way : List (Nat × Nat) := []
abbrev wB_fX12_way : List Nat := []
theorem w_fX12_way_p63 (g0 : gT) (fu : Nat) (t0 : Int32) (t1 : Int32) (g : gT) (L : lT) (h_g : FW wA_fX12_way wB_fX12_way g0 g) : Kp wA_fX12_way wB_fX12_way g0 (fX12_way_p63 fu t0 t1 g L) := by
  unfold fX12_way_p63
  exact kp_some h_g
theorem w_fX12_way (g0 : gT) (fu : Nat) (p1 : Int32) (p2 : Int32) (g : gT) (L : lT) (h_g : FW wA_fX12_way wB_fX12_way g0 g) : Kp wA_fX12_way wB_fX12_way g0 (fX12_way fu p1 p2 g L) := by
  unfold fX12_way
  refine kp_ck ?_
  refine kp_lti (fun x1 => ?_)
  refine kp_ck ?_
  refine kp_lti (fun x2 => ?_)
  refine kp_cb (w_fX12_off _ _ _ _ _ _ FW.refl) rfl rfl h_g (fun x3 g4 L5 h_g4 => ?_)
  refine kp_cb (w_fX12_isStair _ _ _ _ _ _ FW.refl) rfl rfl h_g4 (fun x7 g8 L9 h_g8 => ?_)
  refine kp_ite ?_ ?_
  ·
    exact w_fX12_way_p63 _ _ _ _ _ _ h_g8
  ·
    refine kp_ck ?_
    refine kp_cnz ?_
    exact w_fX12_way_p63 _ _ _ _ _ _ h_g8
abbrev wA_fX12_comes : List (Nat × Nat) := []
abbrev wB_fX12_comes : List Nat := []
theorem w_fX12_comes (g0 : gT) (fu : Nat) (p1 : Int32) (p2 : Int32) (g : gT) (L : lT) (h_g : FW wA_fX12_comes wB_fX12_comes g0 g) : Kp wA_fX12_comes wB_fX12_comes g0 (fX12_comes fu p1 p2 g L) := by
  unfold fX12_comes
  refine kp_ck ?_
  refine kp_cb (w_fX12_way _ _ _ _ _ _ FW.refl) rfl rfl h_g (fun x1 g2 L3 h_g2 => ?_)
  refine kp_ck ?_
  exact kp_some h_g2
abbrev wA_fX12_thereBy : List (Nat × Nat) := []
abbrev wB_fX12_thereBy : List Nat := [35]
theorem w_fX12_thereBy_p80 (g0 : gT) (fu : Nat) (k10 : Int32 × gT × lT → Option ((Int32) × zS)) (v1 : Int32) (v2 : Int32) (v3 : Int32) (v4 : Int32) (v5 : Int32) (v6 : Int32) (g : gT) (L : lT) (hk10 : ∀ v : Int32 × gT × lT, FW wA_fX12_thereBy wB_fX12_thereBy g0 (v.2.1) → Kp wA_fX12_thereBy wB_fX12_thereBy g0 (k10 v)) (h_g : FW wA_fX12_thereBy wB_fX12_thereBy g0 g) : Kp wA_fX12_thereBy wB_fX12_thereBy g0 (fX12_thereBy_p80 fu k10 v1 v2 v3 v4 v5 v6 g L) := by
  unfold fX12_thereBy_p80
  refine kp_ck ?_
  refine kp_stB (by decide) h_g (fun g7 h_g7 => ?_)
  exact hk10 _ h_g7
theorem w_fX12_thereBy_s39 (g0 : gT) (fu : Nat) (k10 : Int32 × gT × lT → Option ((Int32) × zS)) (v1 : Int32) (v2 : Int32) (v3 : Int32) (v4 : Int32) (v5 : Int32) (k39 : Int32 × gT × lT → Option ((Int32) × zS)) (v6 : Int32) (g : gT) (L : lT) (hk10 : ∀ v : Int32 × gT × lT, FW wA_fX12_thereBy wB_fX12_thereBy g0 (v.2.1) → Kp wA_fX12_thereBy wB_fX12_thereBy g0 (k10 v)) (hk39 : ∀ v : Int32 × gT × lT, FW wA_fX12_thereBy wB_fX12_thereBy g0 (v.2.1) → Kp wA_fX12_thereBy wB_fX12_thereBy g0 (k39 v)) (h_g : FW wA_fX12_thereBy wB_fX12_thereBy g0 g) : Kp wA_fX12_thereBy wB_fX12_thereBy g0 (fX12_thereBy_s39 fu k10 v1 v2 v3 v4 v5 k39 v6 g L) := by
  unfold fX12_thereBy_s39
  refine kp_ite ?_ ?_
  ·
    exact w_fX12_thereBy_p80 _ _ _ _ _ _ _ _ _ _ _ hk10 h_g
  ·
    refine kp_ck ?_
    refine kp_ite ?_ ?_
    ·
      exact w_fX12_thereBy_p80 _ _ _ _ _ _ _ _ _ _ _ hk10 h_g
    ·
      refine kp_ck ?_
      refine kp_ck ?_
      refine kp_stB (by decide) h_g (fun g10 h_g10 => ?_)
      exact hk39 _ h_g10
theorem w_fX12_thereBy_l39 (g0 : gT) (fu : Nat) (k10 : Int32 × gT × lT → Option ((Int32) × zS)) (v1 : Int32) (v2 : Int32) (v3 : Int32) (v4 : Int32) (v5 : Int32) (v6 : Int32) (g : gT) (L : lT) (hk10 : ∀ v : Int32 × gT × lT, FW wA_fX12_thereBy wB_fX12_thereBy g0 (v.2.1) → Kp wA_fX12_thereBy wB_fX12_thereBy g0 (k10 v)) (h_g : FW wA_fX12_thereBy wB_fX12_thereBy g0 g) : Kp wA_fX12_thereBy wB_fX12_thereBy g0 (fX12_thereBy_l39 fu k10 v1 v2 v3 v4 v5 v6 g L) := by
  unfold fX12_thereBy_l39
  exact kp_loop (fun v => v.2.1) (fun k_ hk_ v hv_ => w_fX12_thereBy_s39 _ _ _ _ _ _ _ _ _ _ _ _ hk10 hk_ hv_) h_g
theorem w_fX12_thereBy_s10 (g0 : gT) (fu : Nat) (v1 : Int32) (v2 : Int32) (v3 : Int32) (k10 : Int32 × gT × lT → Option ((Int32) × zS)) (v4 : Int32) (g : gT) (L : lT) (hk10 : ∀ v : Int32 × gT × lT, FW wA_fX12_thereBy wB_fX12_thereBy g0 (v.2.1) → Kp wA_fX12_thereBy wB_fX12_thereBy g0 (k10 v)) (h_g : FW wA_fX12_thereBy wB_fX12_thereBy g0 g) : Kp wA_fX12_thereBy wB_fX12_thereBy g0 (fX12_thereBy_s10 fu v1 v2 v3 k10 v4 g L) := by
  unfold fX12_thereBy_s10
  refine kp_ite ?_ ?_
  ·
    refine kp_ck ?_
    exact kp_some h_g
  ·
    refine kp_ck ?_
    refine kp_cb (w_fX12_comes _ _ _ _ _ _ FW.refl) rfl rfl h_g (fun x3 g4 L5 h_g4 => ?_)
    exact w_fX12_thereBy_l39 _ _ _ _ _ _ _ _ _ _ _ hk10 h_g4
theorem w_fX12_thereBy_l10 (g0 : gT) (fu : Nat) (v1 : Int32) (v2 : Int32) (v3 : Int32) (v4 : Int32) (g : gT) (L : lT) (h_g : FW wA_fX12_thereBy wB_fX12_thereBy g0 g) : Kp wA_fX12_thereBy wB_fX12_thereBy g0 (fX12_thereBy_l10 fu v1 v2 v3 v4 g L) := by
  unfold fX12_thereBy_l10
  exact kp_loop (fun v => v.2.1) (fun k_ hk_ v hv_ => w_fX12_thereBy_s10 _ _ _ _ _ _ _ _ _ hk_ hv_) h_g
theorem w_fX12_thereBy (g0 : gT) (fu : Nat) (p1 : Int32) (p2 : Int32) (g : gT) (L : lT) (h_g : FW wA_fX12_thereBy wB_fX12_thereBy g0 g) : Kp wA_fX12_thereBy wB_fX12_thereBy g0 (fX12_thereBy fu p1 p2 g L) := by
  unfold fX12_thereBy
  refine kp_ck ?_
  refine kp_lti (fun x1 => ?_)
  exact w_fX12_thereBy_l10 _ _ _ _ _ _ _ _ h_g
abbrev wA_fX12_runsOver : List (Nat × Nat) := []
abbrev wB_fX12_runsOver : List Nat := [29, 30]
theorem w_fX12_runsOver_p152 (g0 : gT) (fu : Nat) (t0 : Int32) (g : gT) (L : lT) (h_g : FW wA_fX12_runsOver wB_fX12_runsOver g0 g) : Kp wA_fX12_runsOver wB_fX12_runsOver g0 (fX12_runsOver_p152 fu t0 g L) := by
  unfold fX12_runsOver_p152
  exact kp_some h_g
theorem w_fX12_runsOver_p133 (g0 : gT) (fu : Nat) (v2 : Int32) (t0 : Int32) (g : gT) (L : lT) (h_g : FW wA_fX12_runsOver wB_fX12_runsOver g0 g) : Kp wA_fX12_runsOver wB_fX12_runsOver g0 (fX12_runsOver_p133 fu v2 t0 g L) := by
  unfold fX12_runsOver_p133
  refine kp_ite ?_ ?_
  ·
    refine kp_ite ?_ ?_
    ·
      exact w_fX12_runsOver_p152 _ _ _ _ _ h_g
    ·
      exact w_fX12_runsOver_p152 _ _ _ _ _ h_g
  ·
    exact w_fX12_runsOver_p152 _ _ _ _ _ h_g
theorem w_fX12_runsOver_p117 (g0 : gT) (fu : Nat) (v1 : Int32) (v2 : Int32) (g : gT) (L : lT) (h_g : FW wA_fX12_runsOver wB_fX12_runsOver g0 g) : Kp wA_fX12_runsOver wB_fX12_runsOver g0 (fX12_runsOver_p117 fu v1 v2 g L) := by
  unfold fX12_runsOver_p117
  refine kp_ite ?_ ?_
  ·
    exact w_fX12_runsOver_p133 _ _ _ _ _ _ h_g
  ·
    exact w_fX12_runsOver_p133 _ _ _ _ _ _ h_g
theorem w_fX12_runsOver (g0 : gT) (fu : Nat) (p1 : Int32) (g : gT) (L : lT) (h_g : FW wA_fX12_runsOver wB_fX12_runsOver g0 g) : Kp wA_fX12_runsOver wB_fX12_runsOver g0 (fX12_runsOver fu p1 g L) := by
  unfold fX12_runsOver
  refine kp_ite ?_ ?_
  ·
    exact kp_some h_g
  ·
    refine kp_ck ?_
    refine kp_lti (fun x2 => ?_)
    refine kp_ite ?_ ?_
    ·
      exact w_fX12_runsOver_p117 _ _ _ _ _ _ h_g
    ·
      refine kp_ck ?_
      refine kp_stB (by decide) h_g (fun g7 h_g7 => ?_)
      refine kp_ck ?_
      refine kp_ck ?_
      refine kp_ck ?_
      refine kp_stB (by decide) h_g7 (fun g8 h_g8 => ?_)
      refine kp_ck ?_
      refine kp_ck ?_
      refine kp_stB (by decide) h_g8 (fun g9 h_g9 => ?_)
      refine kp_ck ?_
      refine kp_ck ?_
      refine kp_stB (by decide) h_g9 (fun g10 h_g10 => ?_)
      refine kp_ck ?_
      refine kp_ck ?_
      refine kp_stB (by decide) h_g10 (fun g11 h_g11 => ?_)
      refine kp_ck ?_
      refine kp_stB (by decide) h_g11 (fun g12 h_g12 => ?_)
      refine kp_ck ?_
      refine kp_cb (w_fX12_reckons _ _ _ _ _ FW.refl) rfl rfl h_g12 (fun x13 g14 L15 h_g14 => ?_)
      exact w_fX12_runsOver_p117 _ _ _ _ _ _ h_g14
abbrev wA_fX12_works0 : List (Nat × Nat) := []
abbrev wB_fX12_works0 : List Nat := [29, 30, 31, 32, 33, 34, 35]
theorem w_fX12_works0_p244 (g0 : gT) (fu : Nat) (k2 : Int32 × gT × lT → Option ((Unit) × zS)) (v1 : Int32) (t0 : Int32) (g : gT) (L : lT) (hk2 : ∀ v : Int32 × gT × lT, FW wA_fX12_works0 wB_fX12_works0 g0 (v.2.1) → Kp wA_fX12_works0 wB_fX12_works0 g0 (k2 v)) (h_g : FW wA_fX12_works0 wB_fX12_works0 g0 g) : Kp wA_fX12_works0 wB_fX12_works0 g0 (fX12_works0_p244 fu k2 v1 t0 g L) := by
  unfold fX12_works0_p244
  refine kp_ck ?_
  refine kp_ck ?_
  refine kp_stB (by decide) h_g (fun g10 h_g10 => ?_)
  exact hk2 _ h_g10
theorem w_fX12_works0_p199 (g0 : gT) (fu : Nat) (k2 : Int32 × gT × lT → Option ((Unit) × zS)) (v1 : Int32) (v2 : Int32) (g : gT) (L : lT) (hk2 : ∀ v : Int32 × gT × lT, FW wA_fX12_works0 wB_fX12_works0 g0 (v.2.1) → Kp wA_fX12_works0 wB_fX12_works0 g0 (k2 v)) (h_g : FW wA_fX12_works0 wB_fX12_works0 g0 g) : Kp wA_fX12_works0 wB_fX12_works0 g0 (fX12_works0_p199 fu k2 v1 v2 g L) := by
  unfold fX12_works0_p199
  refine kp_cb (w_fX12_runsOver _ _ _ _ _ FW.refl) rfl rfl h_g (fun x5 g6 L7 h_g6 => ?_)
  refine kp_ck ?_
  refine kp_stB (by decide) h_g6 (fun g9 h_g9 => ?_)
  refine kp_ck ?_
  refine kp_ck ?_
  refine kp_ite ?_ ?_
  ·
    refine kp_ck ?_
    exact w_fX12_works0_p244 _ _ _ _ _ _ _ hk2 h_g9
  ·
    refine kp_ck ?_
    exact w_fX12_works0_p244 _ _ _ _ _ _ _ hk2 h_g9
theorem w_fX12_works0_p193 (g0 : gT) (fu : Nat) (k2 : Int32 × gT × lT → Option ((Unit) × zS)) (k135 : Int32 × gT × lT → Option ((Unit) × zS)) (v1 : Int32) (v2 : Int32) (v3 : Int32) (v4 : Int32) (g : gT) (L : lT) (hk2 : ∀ v : Int32 × gT × lT, FW wA_fX12_works0 wB_fX12_works0 g0 (v.2.1) → Kp wA_fX12_works0 wB_fX12_works0 g0 (k2 v)) (hk135 : ∀ v : Int32 × gT × lT, FW wA_fX12_works0 wB_fX12_works0 g0 (v.2.1) → Kp wA_fX12_works0 wB_fX12_works0 g0 (k135 v)) (h_g : FW wA_fX12_works0 wB_fX12_works0 g0 g) : Kp wA_fX12_works0 wB_fX12_works0 g0 (fX12_works0_p193 fu k2 k135 v1 v2 v3 v4 g L) := by
  unfold fX12_works0_p193
  exact hk135 _ h_g
theorem w_fX12_works0_s135 (g0 : gT) (fu : Nat) (k2 : Int32 × gT × lT → Option ((Unit) × zS)) (v1 : Int32) (v2 : Int32) (v3 : Int32) (k135 : Int32 × gT × lT → Option ((Unit) × zS)) (v4 : Int32) (g : gT) (L : lT) (hk2 : ∀ v : Int32 × gT × lT, FW wA_fX12_works0 wB_fX12_works0 g0 (v.2.1) → Kp wA_fX12_works0 wB_fX12_works0 g0 (k2 v)) (hk135 : ∀ v : Int32 × gT × lT, FW wA_fX12_works0 wB_fX12_works0 g0 (v.2.1) → Kp wA_fX12_works0 wB_fX12_works0 g0 (k135 v)) (h_g : FW wA_fX12_works0 wB_fX12_works0 g0 g) : Kp wA_fX12_works0 wB_fX12_works0 g0 (fX12_works0_s135 fu k2 v1 v2 v3 k135 v4 g L) := by
  unfold fX12_works0_s135
  refine kp_ck ?_
  refine kp_ite ?_ ?_
  ·
    exact w_fX12_works0_p199 _ _ _ _ _ _ _ hk2 h_g
  ·
    refine kp_ite ?_ ?_
    ·
      exact w_fX12_works0_p199 _ _ _ _ _ _ _ hk2 h_g
    ·
      refine kp_ck ?_
      refine kp_lti (fun x14 => ?_)
      refine kp_ck ?_
      refine kp_ite ?_ ?_
      ·
        refine kp_cb (w_fX12_comes _ _ _ _ _ _ FW.refl) rfl rfl h_g (fun x16 g17 L18 h_g17 => ?_)
        refine kp_ite ?_ ?_
        ·
          refine kp_ck ?_
          refine kp_stB (by decide) h_g17 (fun g21 h_g21 => ?_)
          exact w_fX12_works0_p193 _ _ _ _ _ _ _ _ _ _ hk2 hk135 h_g21
        ·
          exact w_fX12_works0_p193 _ _ _ _ _ _ _ _ _ _ hk2 hk135 h_g17
      ·
        exact w_fX12_works0_p193 _ _ _ _ _ _ _ _ _ _ hk2 hk135 h_g
theorem w_fX12_works0_l135 (g0 : gT) (fu : Nat) (k2 : Int32 × gT × lT → Option ((Unit) × zS)) (v1 : Int32) (v2 : Int32) (v3 : Int32) (v4 : Int32) (g : gT) (L : lT) (hk2 : ∀ v : Int32 × gT × lT, FW wA_fX12_works0 wB_fX12_works0 g0 (v.2.1) → Kp wA_fX12_works0 wB_fX12_works0 g0 (k2 v)) (h_g : FW wA_fX12_works0 wB_fX12_works0 g0 g) : Kp wA_fX12_works0 wB_fX12_works0 g0 (fX12_works0_l135 fu k2 v1 v2 v3 v4 g L) := by
  unfold fX12_works0_l135
  exact kp_loop (fun v => v.2.1) (fun k_ hk_ v hv_ => w_fX12_works0_s135 _ _ _ _ _ _ _ _ _ _ hk2 hk_ hv_) h_g
theorem w_fX12_works0_p118 (g0 : gT) (fu : Nat) (k2 : Int32 × gT × lT → Option ((Unit) × zS)) (v1 : Int32) (v2 : Int32) (v3 : Int32) (g : gT) (L : lT) (hk2 : ∀ v : Int32 × gT × lT, FW wA_fX12_works0 wB_fX12_works0 g0 (v.2.1) → Kp wA_fX12_works0 wB_fX12_works0 g0 (k2 v)) (h_g : FW wA_fX12_works0 wB_fX12_works0 g0 g) : Kp wA_fX12_works0 wB_fX12_works0 g0 (fX12_works0_p118 fu k2 v1 v2 v3 g L) := by
  unfold fX12_works0_p118
  refine kp_ck ?_
  refine kp_stB (by decide) h_g (fun g3 h_g3 => ?_)
  refine kp_ck ?_
  refine kp_stB (by decide) h_g3 (fun g4 h_g4 => ?_)
  exact w_fX12_works0_l135 _ _ _ _ _ _ _ _ _ hk2 h_g4
theorem w_fX12_works0_p117 (g0 : gT) (fu : Nat) (k2 : Int32 × gT × lT → Option ((Unit) × zS)) (v1 : Int32) (v3 : Int32) (t0 : Int32) (g : gT) (L : lT) (hk2 : ∀ v : Int32 × gT × lT, FW wA_fX12_works0 wB_fX12_works0 g0 (v.2.1) → Kp wA_fX12_works0 wB_fX12_works0 g0 (k2 v)) (h_g : FW wA_fX12_works0 wB_fX12_works0 g0 g) : Kp wA_fX12_works0 wB_fX12_works0 g0 (fX12_works0_p117 fu k2 v1 v3 t0 g L) := by
  unfold fX12_works0_p117
  exact w_fX12_works0_p118 _ _ _ _ _ _ _ _ hk2 h_g
theorem w_fX12_works0_p96 (g0 : gT) (fu : Nat) (k2 : Int32 × gT × lT → Option ((Unit) × zS)) (v1 : Int32) (v2 : Int32) (v4 : Int32) (v5 : Int32) (t0 : Int32) (g : gT) (L : lT) (hk2 : ∀ v : Int32 × gT × lT, FW wA_fX12_works0 wB_fX12_works0 g0 (v.2.1) → Kp wA_fX12_works0 wB_fX12_works0 g0 (k2 v)) (h_g : FW wA_fX12_works0 wB_fX12_works0 g0 g) : Kp wA_fX12_works0 wB_fX12_works0 g0 (fX12_works0_p96 fu k2 v1 v2 v4 v5 t0 g L) := by
  unfold fX12_works0_p96
  refine kp_ite ?_ ?_
  ·
    exact w_fX12_works0_p118 _ _ _ _ _ _ _ _ hk2 h_g
  ·
    refine kp_ite ?_ ?_
    ·
      exact w_fX12_works0_p117 _ _ _ _ _ _ _ _ hk2 h_g
    ·
      exact w_fX12_works0_p117 _ _ _ _ _ _ _ _ hk2 h_g
theorem w_fX12_works0_p95 (g0 : gT) (fu : Nat) (k2 : Int32 × gT × lT → Option ((Unit) × zS)) (v1 : Int32) (v2 : Int32) (v4 : Int32) (v5 : Int32) (g : gT) (L : lT) (hk2 : ∀ v : Int32 × gT × lT, FW wA_fX12_works0 wB_fX12_works0 g0 (v.2.1) → Kp wA_fX12_works0 wB_fX12_works0 g0 (k2 v)) (h_g : FW wA_fX12_works0 wB_fX12_works0 g0 g) : Kp wA_fX12_works0 wB_fX12_works0 g0 (fX12_works0_p95 fu k2 v1 v2 v4 v5 g L) := by
  unfold fX12_works0_p95
  exact w_fX12_works0_p96 _ _ _ _ _ _ _ _ _ _ hk2 h_g
theorem w_fX12_works0_p55 (g0 : gT) (fu : Nat) (k2 : Int32 × gT × lT → Option ((Unit) × zS)) (v1 : Int32) (v2 : Int32) (t0 : Int32) (t1 : Int32) (g : gT) (L : lT) (hk2 : ∀ v : Int32 × gT × lT, FW wA_fX12_works0 wB_fX12_works0 g0 (v.2.1) → Kp wA_fX12_works0 wB_fX12_works0 g0 (k2 v)) (h_g : FW wA_fX12_works0 wB_fX12_works0 g0 g) : Kp wA_fX12_works0 wB_fX12_works0 g0 (fX12_works0_p55 fu k2 v1 v2 t0 t1 g L) := by
  unfold fX12_works0_p55
  refine kp_cb (w_fX12_thereBy _ _ _ _ _ _ FW.refl) rfl rfl h_g (fun x23 g24 L25 h_g24 => ?_)
  refine kp_ck ?_
  refine kp_ck ?_
  refine kp_lti (fun x27 => ?_)
  refine kp_ite ?_ ?_
  ·
    exact w_fX12_works0_p95 _ _ _ _ _ _ _ _ _ hk2 h_g24
  ·
    refine kp_ite ?_ ?_
    ·
      exact w_fX12_works0_p95 _ _ _ _ _ _ _ _ _ hk2 h_g24
    ·
      exact w_fX12_works0_p96 _ _ _ _ _ _ _ _ _ _ hk2 h_g24
theorem w_fX12_works0_s2 (g0 : gT) (fu : Nat) (k2 : Int32 × gT × lT → Option ((Unit) × zS)) (v1 : Int32) (g : gT) (L : lT) (hk2 : ∀ v : Int32 × gT × lT, FW wA_fX12_works0 wB_fX12_works0 g0 (v.2.1) → Kp wA_fX12_works0 wB_fX12_works0 g0 (k2 v)) (h_g : FW wA_fX12_works0 wB_fX12_works0 g0 g) : Kp wA_fX12_works0 wB_fX12_works0 g0 (fX12_works0_s2 fu k2 v1 g L) := by
  unfold fX12_works0_s2
  refine kp_ite ?_ ?_
  ·
    exact kp_some h_g
  ·
    refine kp_ck ?_
    refine kp_lti (fun x2 => ?_)
    refine kp_ck ?_
    refine kp_ite ?_ ?_
    ·
      exact w_fX12_works0_p118 _ _ _ _ _ _ _ _ hk2 h_g
    ·
      refine kp_ck ?_
      refine kp_ite ?_ ?_
      ·
        refine kp_ck ?_
        exact w_fX12_works0_p55 _ _ _ _ _ _ _ _ _ hk2 h_g
      ·
        refine kp_ck ?_
        exact w_fX12_works0_p55 _ _ _ _ _ _ _ _ _ hk2 h_g
theorem w_fX12_works0_l2 (g0 : gT) (fu : Nat) (v1 : Int32) (g : gT) (L : lT) (h_g : FW wA_fX12_works0 wB_fX12_works0 g0 g) : Kp wA_fX12_works0 wB_fX12_works0 g0 (fX12_works0_l2 fu v1 g L) := by
  unfold fX12_works0_l2
  exact kp_loop (fun v => v.2.1) (fun k_ hk_ v hv_ => w_fX12_works0_s2 _ _ _ _ _ _ hk_ hv_) h_g
theorem w_fX12_works0 (g0 : gT) (fu : Nat) (g : gT) (L : lT) (h_g : FW wA_fX12_works0 wB_fX12_works0 g0 g) : Kp wA_fX12_works0 wB_fX12_works0 g0 (fX12_works0 fu g L) := by
  unfold fX12_works0
  exact w_fX12_works0_l2 _ _ _ _ _ h_g
abbrev wA_fX12_late : List (Nat × Nat) := []
abbrev wB_fX12_late : List Nat := []
theorem w_fX12_late (g0 : gT) (fu : Nat) (p1 : Int32) (g : gT) (L : lT) (h_g : FW wA_fX12_late wB_fX12_late g0 g) : Kp wA_fX12_late wB_fX12_late g0 (fX12_late fu p1 g L) := by
  unfold fX12_late
  refine kp_ck ?_
  refine kp_ck ?_
  exact kp_some h_g
abbrev wA_fX12_lost : List (Nat × Nat) := []
abbrev wB_fX12_lost : List Nat := [29, 30, 31, 32, 33, 34, 35]
theorem w_fX12_lost_s8 (g0 : gT) (fu : Nat) (k8 : Int32 × Int32 × gT × lT → Option ((Int32) × zS)) (v1 : Int32) (v2 : Int32) (g : gT) (L : lT) (hk8 : ∀ v : Int32 × Int32 × gT × lT, FW wA_fX12_lost wB_fX12_lost g0 (v.2.2.1) → Kp wA_fX12_lost wB_fX12_lost g0 (k8 v)) (h_g : FW wA_fX12_lost wB_fX12_lost g0 g) : Kp wA_fX12_lost wB_fX12_lost g0 (fX12_lost_s8 fu k8 v1 v2 g L) := by
  unfold fX12_lost_s8
  refine kp_ite ?_ ?_
  ·
    exact kp_some h_g
  ·
    refine kp_ck ?_
    refine kp_cb (w_fX12_late _ _ _ _ _ FW.refl) rfl rfl h_g (fun x6 g7 L8 h_g7 => ?_)
    refine kp_lti (fun x10 => ?_)
    exact hk8 _ h_g7
theorem w_fX12_lost_l8 (g0 : gT) (fu : Nat) (v1 : Int32) (v2 : Int32) (g : gT) (L : lT) (h_g : FW wA_fX12_lost wB_fX12_lost g0 g) : Kp wA_fX12_lost wB_fX12_lost g0 (fX12_lost_l8 fu v1 v2 g L) := by
  unfold fX12_lost_l8
  exact kp_loop (fun v => v.2.2.1) (fun k_ hk_ v hv_ => w_fX12_lost_s8 _ _ _ _ _ _ _ hk_ hv_) h_g
theorem w_fX12_lost (g0 : gT) (fu : Nat) (g : gT) (L : lT) (h_g : FW wA_fX12_lost wB_fX12_lost g0 g) : Kp wA_fX12_lost wB_fX12_lost g0 (fX12_lost fu g L) := by
  unfold fX12_lost
  refine kp_cb (w_fX12_works0 _ _ _ _ FW.refl) rfl rfl h_g (fun x1 g2 L3 h_g2 => ?_)
  exact w_fX12_lost_l8 _ _ _ _ _ _ h_g2
abbrev wA_fX12_lates : List (Nat × Nat) := []
abbrev wB_fX12_lates : List Nat := []
theorem w_fX12_lates_s4 (g0 : gT) (fu : Nat) (k4 : Int32 × Int32 × gT × lT → Option ((Int32) × zS)) (v1 : Int32) (v2 : Int32) (g : gT) (L : lT) (hk4 : ∀ v : Int32 × Int32 × gT × lT, FW wA_fX12_lates wB_fX12_lates g0 (v.2.2.1) → Kp wA_fX12_lates wB_fX12_lates g0 (k4 v)) (h_g : FW wA_fX12_lates wB_fX12_lates g0 g) : Kp wA_fX12_lates wB_fX12_lates g0 (fX12_lates_s4 fu k4 v1 v2 g L) := by
  unfold fX12_lates_s4
  refine kp_ite ?_ ?_
  ·
    exact kp_some h_g
  ·
    refine kp_cb (w_fX12_late _ _ _ _ _ FW.refl) rfl rfl h_g (fun x2 g3 L4 h_g3 => ?_)
    refine kp_lti (fun x6 => ?_)
    exact hk4 _ h_g3
theorem w_fX12_lates_l4 (g0 : gT) (fu : Nat) (v1 : Int32) (v2 : Int32) (g : gT) (L : lT) (h_g : FW wA_fX12_lates wB_fX12_lates g0 g) : Kp wA_fX12_lates wB_fX12_lates g0 (fX12_lates_l4 fu v1 v2 g L) := by
  unfold fX12_lates_l4
  exact kp_loop (fun v => v.2.2.1) (fun k_ hk_ v hv_ => w_fX12_lates_s4 _ _ _ _ _ _ _ hk_ hv_) h_g
theorem w_fX12_lates (g0 : gT) (fu : Nat) (g : gT) (L : lT) (h_g : FW wA_fX12_lates wB_fX12_lates g0 g) : Kp wA_fX12_lates wB_fX12_lates g0 (fX12_lates fu g L) := by
  unfold fX12_lates
  exact w_fX12_lates_l4 _ _ _ _ _ _ h_g
abbrev wA_fX12_lateness : List (Nat × Nat) := []
abbrev wB_fX12_lateness : List Nat := [29, 30, 31, 32, 33, 34, 35]
theorem w_fX12_lateness_p84 (g0 : gT) (fu : Nat) (k8 : Int32 × Int32 × gT × lT → Option ((Int32) × zS)) (v1 : Int32) (v2 : Int32) (v3 : Int32) (g : gT) (L : lT) (hk8 : ∀ v : Int32 × Int32 × gT × lT, FW wA_fX12_lateness wB_fX12_lateness g0 (v.2.2.1) → Kp wA_fX12_lateness wB_fX12_lateness g0 (k8 v)) (h_g : FW wA_fX12_lateness wB_fX12_lateness g0 g) : Kp wA_fX12_lateness wB_fX12_lateness g0 (fX12_lateness_p84 fu k8 v1 v2 v3 g L) := by
  unfold fX12_lateness_p84
  exact hk8 _ h_g
theorem w_fX12_lateness_p82 (g0 : gT) (fu : Nat) (k8 : Int32 × Int32 × gT × lT → Option ((Int32) × zS)) (v1 : Int32) (v3 : Int32) (t0 : Int32) (t1 : Int32) (g : gT) (L : lT) (hk8 : ∀ v : Int32 × Int32 × gT × lT, FW wA_fX12_lateness wB_fX12_lateness g0 (v.2.2.1) → Kp wA_fX12_lateness wB_fX12_lateness g0 (k8 v)) (h_g : FW wA_fX12_lateness wB_fX12_lateness g0 g) : Kp wA_fX12_lateness wB_fX12_lateness g0 (fX12_lateness_p82 fu k8 v1 v3 t0 t1 g L) := by
  unfold fX12_lateness_p82
  refine kp_lti (fun x7 => ?_)
  exact w_fX12_lateness_p84 _ _ _ _ _ _ _ _ hk8 h_g
theorem w_fX12_lateness_p77 (g0 : gT) (fu : Nat) (k8 : Int32 × Int32 × gT × lT → Option ((Int32) × zS)) (v1 : Int32) (v3 : Int32) (t0 : Int32) (g : gT) (L : lT) (hk8 : ∀ v : Int32 × Int32 × gT × lT, FW wA_fX12_lateness wB_fX12_lateness g0 (v.2.2.1) → Kp wA_fX12_lateness wB_fX12_lateness g0 (k8 v)) (h_g : FW wA_fX12_lateness wB_fX12_lateness g0 g) : Kp wA_fX12_lateness wB_fX12_lateness g0 (fX12_lateness_p77 fu k8 v1 v3 t0 g L) := by
  unfold fX12_lateness_p77
  exact w_fX12_lateness_p82 _ _ _ _ _ _ _ _ _ hk8 h_g
theorem w_fX12_lateness_p81 (g0 : gT) (fu : Nat) (k8 : Int32 × Int32 × gT × lT → Option ((Int32) × zS)) (v1 : Int32) (v3 : Int32) (t0 : Int32) (g : gT) (L : lT) (hk8 : ∀ v : Int32 × Int32 × gT × lT, FW wA_fX12_lateness wB_fX12_lateness g0 (v.2.2.1) → Kp wA_fX12_lateness wB_fX12_lateness g0 (k8 v)) (h_g : FW wA_fX12_lateness wB_fX12_lateness g0 g) : Kp wA_fX12_lateness wB_fX12_lateness g0 (fX12_lateness_p81 fu k8 v1 v3 t0 g L) := by
  unfold fX12_lateness_p81
  exact w_fX12_lateness_p82 _ _ _ _ _ _ _ _ _ hk8 h_g
theorem w_fX12_lateness_p40 (g0 : gT) (fu : Nat) (k8 : Int32 × Int32 × gT × lT → Option ((Int32) × zS)) (v1 : Int32) (v3 : Int32) (t0 : Int32) (g : gT) (L : lT) (hk8 : ∀ v : Int32 × Int32 × gT × lT, FW wA_fX12_lateness wB_fX12_lateness g0 (v.2.2.1) → Kp wA_fX12_lateness wB_fX12_lateness g0 (k8 v)) (h_g : FW wA_fX12_lateness wB_fX12_lateness g0 g) : Kp wA_fX12_lateness wB_fX12_lateness g0 (fX12_lateness_p40 fu k8 v1 v3 t0 g L) := by
  unfold fX12_lateness_p40
  exact w_fX12_lateness_p84 _ _ _ _ _ _ _ _ hk8 h_g
theorem w_fX12_lateness_s8 (g0 : gT) (fu : Nat) (v1 : Int32) (k8 : Int32 × Int32 × gT × lT → Option ((Int32) × zS)) (v2 : Int32) (v3 : Int32) (g : gT) (L : lT) (hk8 : ∀ v : Int32 × Int32 × gT × lT, FW wA_fX12_lateness wB_fX12_lateness g0 (v.2.2.1) → Kp wA_fX12_lateness wB_fX12_lateness g0 (k8 v)) (h_g : FW wA_fX12_lateness wB_fX12_lateness g0 g) : Kp wA_fX12_lateness wB_fX12_lateness g0 (fX12_lateness_s8 fu v1 k8 v2 v3 g L) := by
  unfold fX12_lateness_s8
  refine kp_ite ?_ ?_
  ·
    exact kp_some h_g
  ·
    refine kp_ite ?_ ?_
    ·
      refine kp_cb (w_fX12_late _ _ _ _ _ FW.refl) rfl rfl h_g (fun x15 g16 L17 h_g16 => ?_)
      refine kp_ite ?_ ?_
      ·
        exact w_fX12_lateness_p40 _ _ _ _ _ _ _ _ hk8 h_g16
      ·
        refine kp_cb (w_fX12_late _ _ _ _ _ FW.refl) rfl rfl h_g16 (fun x20 g21 L22 h_g21 => ?_)
        exact w_fX12_lateness_p40 _ _ _ _ _ _ _ _ hk8 h_g21
    ·
      refine kp_ite ?_ ?_
      ·
        refine kp_cb (w_fX12_late _ _ _ _ _ FW.refl) rfl rfl h_g (fun x10 g11 L12 h_g11 => ?_)
        refine kp_ite ?_ ?_
        ·
          exact w_fX12_lateness_p81 _ _ _ _ _ _ _ _ hk8 h_g11
        ·
          exact w_fX12_lateness_p77 _ _ _ _ _ _ _ _ hk8 h_g11
      ·
        refine kp_ck ?_
        refine kp_ck ?_
        refine kp_ite ?_ ?_
        ·
          exact w_fX12_lateness_p81 _ _ _ _ _ _ _ _ hk8 h_g
        ·
          exact w_fX12_lateness_p77 _ _ _ _ _ _ _ _ hk8 h_g
theorem w_fX12_lateness_l8 (g0 : gT) (fu : Nat) (v1 : Int32) (v2 : Int32) (v3 : Int32) (g : gT) (L : lT) (h_g : FW wA_fX12_lateness wB_fX12_lateness g0 g) : Kp wA_fX12_lateness wB_fX12_lateness g0 (fX12_lateness_l8 fu v1 v2 v3 g L) := by
  unfold fX12_lateness_l8
  exact kp_loop (fun v => v.2.2.1) (fun k_ hk_ v hv_ => w_fX12_lateness_s8 _ _ _ _ _ _ _ _ hk_ hv_) h_g
theorem w_fX12_lateness (g0 : gT) (fu : Nat) (p1 : Int32) (g : gT) (L : lT) (h_g : FW wA_fX12_lateness wB_fX12_lateness g0 g) : Kp wA_fX12_lateness wB_fX12_lateness g0 (fX12_lateness fu p1 g L) := by
  unfold fX12_lateness
  refine kp_cb (w_fX12_works0 _ _ _ _ FW.refl) rfl rfl h_g (fun x1 g2 L3 h_g2 => ?_)
  exact w_fX12_lateness_l8 _ _ _ _ _ _ _ h_g2
abbrev wA_fX12_within : List (Nat × Nat) := []
abbrev wB_fX12_within : List Nat := []
theorem w_fX12_within_p15 (g0 : gT) (fu : Nat) (t0 : Int32) (g : gT) (L : lT) (h_g : FW wA_fX12_within wB_fX12_within g0 g) : Kp wA_fX12_within wB_fX12_within g0 (fX12_within_p15 fu t0 g L) := by
  unfold fX12_within_p15
  refine kp_ckb ?_
  exact kp_some h_g
theorem w_fX12_within_p14 (g0 : gT) (fu : Nat) (g : gT) (L : lT) (h_g : FW wA_fX12_within wB_fX12_within g0 g) : Kp wA_fX12_within wB_fX12_within g0 (fX12_within_p14 fu g L) := by
  unfold fX12_within_p14
  exact w_fX12_within_p15 _ _ _ _ _ h_g
theorem w_fX12_within (g0 : gT) (fu : Nat) (p1 : Int32) (p2 : Int32) (p3 : Int32) (g : gT) (L : lT) (h_g : FW wA_fX12_within wB_fX12_within g0 g) : Kp wA_fX12_within wB_fX12_within g0 (fX12_within fu p1 p2 p3 g L) := by
  unfold fX12_within
  refine kp_ite ?_ ?_
  ·
    exact w_fX12_within_p14 _ _ _ _ h_g
  ·
    refine kp_ite ?_ ?_
    ·
      exact w_fX12_within_p14 _ _ _ _ h_g
    ·
      exact w_fX12_within_p15 _ _ _ _ _ h_g
abbrev wA_fX12_count : List (Nat × Nat) := [(0, 0)]
abbrev wB_fX12_count : List Nat := [29, 30, 31, 32, 33, 34, 35]
theorem w_fX12_count (g0 : gT) (fu : Nat) (p1 : Int32) (g : gT) (L : lT) (h_g : FW wA_fX12_count wB_fX12_count g0 g) : Kp wA_fX12_count wB_fX12_count g0 (fX12_count fu p1 g L) := by
  unfold fX12_count
  refine kp_stF (by decide) h_g (fun g1 h_g1 => ?_)
  refine kp_cb (w_fX12_within _ _ _ _ _ _ _ FW.refl) rfl rfl h_g1 (fun x2 g3 L4 h_g3 => ?_)
  refine kp_cb (w_fX12_right _ _ _ _ _ _ FW.refl) rfl rfl h_g3 (fun x6 g7 L8 h_g7 => ?_)
  refine kp_ite ?_ ?_
  ·
    exact kp_some h_g7
  ·
    refine kp_ite ?_ ?_
    ·
      refine kp_ite ?_ ?_
      ·
        exact kp_some h_g7
      ·
        refine kp_ite ?_ ?_
        ·
          exact kp_some h_g7
        ·
          refine kp_ite ?_ ?_
          ·
            exact kp_some h_g7
          ·
            refine kp_ite ?_ ?_
            ·
              exact kp_some h_g7
            ·
              refine kp_ite ?_ ?_
              ·
                exact kp_some h_g7
              ·
                refine kp_ite ?_ ?_
                ·
                  exact kp_some h_g7
                ·
                  refine kp_ite ?_ ?_
                  ·
                    exact kp_some h_g7
                  ·
                    refine kp_ite ?_ ?_
                    ·
                      refine kp_cb (w_fX12_lost _ _ _ _ FW.refl) rfl rfl h_g7 (fun x20 g21 L22 h_g21 => ?_)
                      exact kp_some h_g21
                    ·
                      refine kp_ite ?_ ?_
                      ·
                        exact kp_some h_g7
                      ·
                        refine kp_ck ?_
                        exact kp_some h_g7
    ·
      refine kp_cb (w_fX12_lateness _ _ _ _ _ FW.refl) rfl rfl h_g7 (fun x25 g26 L27 h_g26 => ?_)
      exact kp_some h_g26
abbrev wA_fX12_isLesson : List (Nat × Nat) := [(0, 0)]
abbrev wB_fX12_isLesson : List Nat := []
theorem w_fX12_isLesson_p18 (g0 : gT) (fu : Nat) (t0 : Int32) (g : gT) (L : lT) (h_g : FW wA_fX12_isLesson wB_fX12_isLesson g0 g) : Kp wA_fX12_isLesson wB_fX12_isLesson g0 (fX12_isLesson_p18 fu t0 g L) := by
  unfold fX12_isLesson_p18
  refine kp_cb (w_fX12_right _ _ _ _ _ _ FW.refl) rfl rfl h_g (fun x1 g2 L3 h_g2 => ?_)
  refine kp_ckb ?_
  exact kp_some h_g2
theorem w_fX12_isLesson_p17 (g0 : gT) (fu : Nat) (g : gT) (L : lT) (h_g : FW wA_fX12_isLesson wB_fX12_isLesson g0 g) : Kp wA_fX12_isLesson wB_fX12_isLesson g0 (fX12_isLesson_p17 fu g L) := by
  unfold fX12_isLesson_p17
  exact w_fX12_isLesson_p18 _ _ _ _ _ h_g
theorem w_fX12_isLesson (g0 : gT) (fu : Nat) (p1 : Int32) (g : gT) (L : lT) (h_g : FW wA_fX12_isLesson wB_fX12_isLesson g0 g) : Kp wA_fX12_isLesson wB_fX12_isLesson g0 (fX12_isLesson fu p1 g L) := by
  unfold fX12_isLesson
  refine kp_ite ?_ ?_
  ·
    exact w_fX12_isLesson_p17 _ _ _ _ h_g
  ·
    refine kp_ite ?_ ?_
    ·
      exact w_fX12_isLesson_p17 _ _ _ _ h_g
    ·
      exact w_fX12_isLesson_p18 _ _ _ _ _ h_g
abbrev wA_fX12_isWhat : List (Nat × Nat) := [(0, 0)]
abbrev wB_fX12_isWhat : List Nat := []
theorem w_fX12_isWhat (g0 : gT) (fu : Nat) (p1 : Int32) (p2 : Int32) (g : gT) (L : lT) (h_g : FW wA_fX12_isWhat wB_fX12_isWhat g0 g) : Kp wA_fX12_isWhat wB_fX12_isWhat g0 (fX12_isWhat fu p1 p2 g L) := by
  unfold fX12_isWhat
  refine kp_cb (w_fX12_within _ _ _ _ _ _ _ FW.refl) rfl rfl h_g (fun x1 g2 L3 h_g2 => ?_)
  refine kp_cb (w_fX12_right _ _ _ _ _ _ FW.refl) rfl rfl h_g2 (fun x5 g6 L7 h_g6 => ?_)
  refine kp_ckb ?_
  exact kp_some h_g6
abbrev wA_fX12_waitsSet : List (Nat × Nat) := []
abbrev wB_fX12_waitsSet : List Nat := []
theorem w_fX12_waitsSet_s4 (g0 : gT) (fu : Nat) (v1 : Int32) (k4 : Int32 × Int32 × gT × lT → Option ((Int32) × zS)) (v2 : Int32) (v3 : Int32) (g : gT) (L : lT) (hk4 : ∀ v : Int32 × Int32 × gT × lT, FW wA_fX12_waitsSet wB_fX12_waitsSet g0 (v.2.2.1) → Kp wA_fX12_waitsSet wB_fX12_waitsSet g0 (k4 v)) (h_g : FW wA_fX12_waitsSet wB_fX12_waitsSet g0 g) : Kp wA_fX12_waitsSet wB_fX12_waitsSet g0 (fX12_waitsSet_s4 fu v1 k4 v2 v3 g L) := by
  unfold fX12_waitsSet_s4
  refine kp_ck ?_
  refine kp_ite ?_ ?_
  ·
    exact kp_some h_g
  ·
    refine kp_ck ?_
    refine kp_lti (fun x2 => ?_)
    exact hk4 _ h_g
theorem w_fX12_waitsSet_l4 (g0 : gT) (fu : Nat) (v1 : Int32) (v2 : Int32) (v3 : Int32) (g : gT) (L : lT) (h_g : FW wA_fX12_waitsSet wB_fX12_waitsSet g0 g) : Kp wA_fX12_waitsSet wB_fX12_waitsSet g0 (fX12_waitsSet_l4 fu v1 v2 v3 g L) := by
  unfold fX12_waitsSet_l4
  exact kp_loop (fun v => v.2.2.1) (fun k_ hk_ v hv_ => w_fX12_waitsSet_s4 _ _ _ _ _ _ _ _ hk_ hv_) h_g
theorem w_fX12_waitsSet (g0 : gT) (fu : Nat) (p1 : Int32) (g : gT) (L : lT) (h_g : FW wA_fX12_waitsSet wB_fX12_waitsSet g0 g) : Kp wA_fX12_waitsSet wB_fX12_waitsSet g0 (fX12_waitsSet fu p1 g L) := by
  unfold fX12_waitsSet
  exact w_fX12_waitsSet_l4 _ _ _ _ _ _ _ h_g
abbrev wA_fX12_lesson : List (Nat × Nat) := [(0, 0)]
abbrev wB_fX12_lesson : List Nat := []
theorem w_fX12_lesson_p23 (g0 : gT) (fu : Nat) (g : gT) (L : lT) (h_g : FW wA_fX12_lesson wB_fX12_lesson g0 g) : Kp wA_fX12_lesson wB_fX12_lesson g0 (fX12_lesson_p23 fu g L) := by
  unfold fX12_lesson_p23
  exact kp_some h_g
theorem w_fX12_lesson (g0 : gT) (fu : Nat) (p1 : Int32) (p2 : Int32) (g : gT) (L : lT) (h_g : FW wA_fX12_lesson wB_fX12_lesson g0 g) : Kp wA_fX12_lesson wB_fX12_lesson g0 (fX12_lesson fu p1 p2 g L) := by
  unfold fX12_lesson
  refine kp_stF (by decide) h_g (fun g1 h_g1 => ?_)
  refine kp_cb (w_fX12_isLesson _ _ _ _ _ FW.refl) rfl rfl h_g1 (fun x2 g3 L4 h_g3 => ?_)
  refine kp_ite ?_ ?_
  ·
    exact w_fX12_lesson_p23 _ _ _ _ h_g3
  ·
    refine kp_cb (w_fX12_isWhat _ _ _ _ _ _ FW.refl) rfl rfl h_g3 (fun x7 g8 L9 h_g8 => ?_)
    refine kp_ite ?_ ?_
    ·
      exact w_fX12_lesson_p23 _ _ _ _ h_g8
    ·
      refine kp_ite ?_ ?_
      ·
        refine kp_ck ?_
        exact kp_some h_g8
      ·
        refine kp_ite ?_ ?_
        ·
          refine kp_ck ?_
          exact kp_some h_g8
        ·
          refine kp_ite ?_ ?_
          ·
            refine kp_ck ?_
            exact kp_some h_g8
          ·
            refine kp_ite ?_ ?_
            ·
              refine kp_ck ?_
              exact kp_some h_g8
            ·
              refine kp_ite ?_ ?_
              ·
                refine kp_ck ?_
                exact kp_some h_g8
              ·
                refine kp_ite ?_ ?_
                ·
                  refine kp_ck ?_
                  exact kp_some h_g8
                ·
                  refine kp_ite ?_ ?_
                  ·
                    refine kp_ck ?_
                    exact kp_some h_g8
                  ·
                    refine kp_ite ?_ ?_
                    ·
                      refine kp_ck ?_
                      exact kp_some h_g8
                    ·
                      refine kp_ite ?_ ?_
                      ·
                        refine kp_cb (w_fX12_waitsSet _ _ _ _ _ FW.refl) rfl rfl h_g8 (fun x21 g22 L23 h_g22 => ?_)
                        exact kp_some h_g22
                      ·
                        refine kp_ite ?_ ?_
                        ·
                          refine kp_ck ?_
                          exact kp_some h_g8
                        ·
                          refine kp_ite ?_ ?_
                          ·
                            refine kp_ck ?_
                            exact kp_some h_g8
                          ·
                            refine kp_ck ?_
                            exact kp_some h_g8
abbrev wA_fX12_day : List (Nat × Nat) := [(0, 0)]
abbrev wB_fX12_day : List Nat := [29, 30, 31, 32, 33, 34, 35]
theorem w_fX12_day_p22 (g0 : gT) (fu : Nat) (g : gT) (L : lT) (h_g : FW wA_fX12_day wB_fX12_day g0 g) : Kp wA_fX12_day wB_fX12_day g0 (fX12_day_p22 fu g L) := by
  unfold fX12_day_p22
  exact kp_some h_g
theorem w_fX12_day_p88 (g0 : gT) (fu : Nat) (t0 : Int32) (g : gT) (L : lT) (h_g : FW wA_fX12_day wB_fX12_day g0 g) : Kp wA_fX12_day wB_fX12_day g0 (fX12_day_p88 fu t0 g L) := by
  unfold fX12_day_p88
  exact kp_some h_g
theorem w_fX12_day (g0 : gT) (fu : Nat) (p1 : Int32) (p2 : Int32) (g : gT) (L : lT) (h_g : FW wA_fX12_day wB_fX12_day g0 g) : Kp wA_fX12_day wB_fX12_day g0 (fX12_day fu p1 p2 g L) := by
  unfold fX12_day
  refine kp_stF (by decide) h_g (fun g1 h_g1 => ?_)
  refine kp_cb (w_fX12_isLesson _ _ _ _ _ FW.refl) rfl rfl h_g1 (fun x2 g3 L4 h_g3 => ?_)
  refine kp_ite ?_ ?_
  ·
    exact w_fX12_day_p22 _ _ _ _ h_g3
  ·
    refine kp_cb (w_fX12_isWhat _ _ _ _ _ _ FW.refl) rfl rfl h_g3 (fun x7 g8 L9 h_g8 => ?_)
    refine kp_ite ?_ ?_
    ·
      exact w_fX12_day_p22 _ _ _ _ h_g8
    ·
      refine kp_cb (w_fX12_works0 _ _ _ _ FW.refl) rfl rfl h_g8 (fun x12 g13 L14 h_g13 => ?_)
      refine kp_ite ?_ ?_
      ·
        refine kp_ck ?_
        exact w_fX12_day_p88 _ _ _ _ _ h_g13
      ·
        refine kp_ite ?_ ?_
        ·
          refine kp_ck ?_
          exact w_fX12_day_p88 _ _ _ _ _ h_g13
        ·
          refine kp_ite ?_ ?_
          ·
            refine kp_cb (w_fX12_late _ _ _ _ _ FW.refl) rfl rfl h_g13 (fun x20 g21 L22 h_g21 => ?_)
            exact w_fX12_day_p88 _ _ _ _ _ h_g21
          ·
            refine kp_ite ?_ ?_
            ·
              refine kp_ck ?_
              exact w_fX12_day_p88 _ _ _ _ _ h_g13
            ·
              refine kp_ck ?_
              exact w_fX12_day_p88 _ _ _ _ _ h_g13
abbrev wA_fX12_chain : List (Nat × Nat) := [(0, 0)]
abbrev wB_fX12_chain : List Nat := [29, 30, 31, 32, 33, 34, 35]
theorem w_fX12_chain_p30 (g0 : gT) (fu : Nat) (g : gT) (L : lT) (h_g : FW wA_fX12_chain wB_fX12_chain g0 g) : Kp wA_fX12_chain wB_fX12_chain g0 (fX12_chain_p30 fu g L) := by
  unfold fX12_chain_p30
  exact kp_some h_g
theorem w_fX12_chain_p65 (g0 : gT) (fu : Nat) (v3 : Int32) (g : gT) (L : lT) (h_g : FW wA_fX12_chain wB_fX12_chain g0 g) : Kp wA_fX12_chain wB_fX12_chain g0 (fX12_chain_p65 fu v3 g L) := by
  unfold fX12_chain_p65
  exact kp_some h_g
theorem w_fX12_chain_s41 (g0 : gT) (fu : Nat) (v2 : Int32) (k41 : Int32 × Int32 × gT × lT → Option ((Int32) × zS)) (v3 : Int32) (v4 : Int32) (g : gT) (L : lT) (hk41 : ∀ v : Int32 × Int32 × gT × lT, FW wA_fX12_chain wB_fX12_chain g0 (v.2.2.1) → Kp wA_fX12_chain wB_fX12_chain g0 (k41 v)) (h_g : FW wA_fX12_chain wB_fX12_chain g0 g) : Kp wA_fX12_chain wB_fX12_chain g0 (fX12_chain_s41 fu v2 k41 v3 v4 g L) := by
  unfold fX12_chain_s41
  refine kp_ite ?_ ?_
  ·
    exact w_fX12_chain_p65 _ _ _ _ _ h_g
  ·
    refine kp_ite ?_ ?_
    ·
      exact w_fX12_chain_p65 _ _ _ _ _ h_g
    ·
      refine kp_ck ?_
      refine kp_lti (fun x18 => ?_)
      exact hk41 _ h_g
theorem w_fX12_chain_l41 (g0 : gT) (fu : Nat) (v2 : Int32) (v3 : Int32) (v4 : Int32) (g : gT) (L : lT) (h_g : FW wA_fX12_chain wB_fX12_chain g0 g) : Kp wA_fX12_chain wB_fX12_chain g0 (fX12_chain_l41 fu v2 v3 v4 g L) := by
  unfold fX12_chain_l41
  exact kp_loop (fun v => v.2.2.1) (fun k_ hk_ v hv_ => w_fX12_chain_s41 _ _ _ _ _ _ _ _ hk_ hv_) h_g
theorem w_fX12_chain_p23 (g0 : gT) (fu : Nat) (v1 : Int32) (v2 : Int32) (t0 : Int32) (g : gT) (L : lT) (h_g : FW wA_fX12_chain wB_fX12_chain g0 g) : Kp wA_fX12_chain wB_fX12_chain g0 (fX12_chain_p23 fu v1 v2 t0 g L) := by
  unfold fX12_chain_p23
  refine kp_cb (w_fX12_right _ _ _ _ _ _ FW.refl) rfl rfl h_g (fun x7 g8 L9 h_g8 => ?_)
  refine kp_ite ?_ ?_
  ·
    exact w_fX12_chain_p30 _ _ _ _ h_g8
  ·
    refine kp_cb (w_fX12_works0 _ _ _ _ FW.refl) rfl rfl h_g8 (fun x12 g13 L14 h_g13 => ?_)
    exact w_fX12_chain_l41 _ _ _ _ _ _ _ h_g13
theorem w_fX12_chain (g0 : gT) (fu : Nat) (p1 : Int32) (p2 : Int32) (g : gT) (L : lT) (h_g : FW wA_fX12_chain wB_fX12_chain g0 g) : Kp wA_fX12_chain wB_fX12_chain g0 (fX12_chain fu p1 p2 g L) := by
  unfold fX12_chain
  refine kp_stF (by decide) h_g (fun g1 h_g1 => ?_)
  refine kp_cb (w_fX12_isLesson _ _ _ _ _ FW.refl) rfl rfl h_g1 (fun x2 g3 L4 h_g3 => ?_)
  refine kp_ite ?_ ?_
  ·
    exact w_fX12_chain_p30 _ _ _ _ h_g3
  ·
    refine kp_ite ?_ ?_
    ·
      exact w_fX12_chain_p23 _ _ _ _ _ _ _ h_g3
    ·
      exact w_fX12_chain_p23 _ _ _ _ _ _ _ h_g3
abbrev wA_fX12_lays : List (Nat × Nat) := [(0, 18)]
abbrev wB_fX12_lays : List Nat := [13]
theorem w_fX12_lays_s3 (g0 : gT) (fu : Nat) (v1 : Int32) (k3 : Int32 × gT × lT → Option ((Unit) × zS)) (v2 : Int32) (g : gT) (L : lT) (hk3 : ∀ v : Int32 × gT × lT, FW wA_fX12_lays wB_fX12_lays g0 (v.2.1) → Kp wA_fX12_lays wB_fX12_lays g0 (k3 v)) (h_g : FW wA_fX12_lays wB_fX12_lays g0 g) : Kp wA_fX12_lays wB_fX12_lays g0 (fX12_lays_s3 fu v1 k3 v2 g L) := by
  unfold fX12_lays_s3
  refine kp_ite ?_ ?_
  ·
    exact kp_some h_g
  ·
    refine kp_ck ?_
    refine kp_stB (by decide) h_g (fun g2 h_g2 => ?_)
    refine kp_stF (by decide) h_g2 (fun g3 h_g3 => ?_)
    exact hk3 _ h_g3
theorem w_fX12_lays_l3 (g0 : gT) (fu : Nat) (v1 : Int32) (v2 : Int32) (g : gT) (L : lT) (h_g : FW wA_fX12_lays wB_fX12_lays g0 g) : Kp wA_fX12_lays wB_fX12_lays g0 (fX12_lays_l3 fu v1 v2 g L) := by
  unfold fX12_lays_l3
  exact kp_loop (fun v => v.2.1) (fun k_ hk_ v hv_ => w_fX12_lays_s3 _ _ _ _ _ _ _ hk_ hv_) h_g
theorem w_fX12_lays (g0 : gT) (fu : Nat) (p1 : Int32) (g : gT) (L : lT) (h_g : FW wA_fX12_lays wB_fX12_lays g0 g) : Kp wA_fX12_lays wB_fX12_lays g0 (fX12_lays fu p1 g L) := by
  unfold fX12_lays
  exact w_fX12_lays_l3 _ _ _ _ _ _ h_g
abbrev wA_fX12_feed : List (Nat × Nat) := [(0, 0), (0, 18)]
abbrev wB_fX12_feed : List Nat := [13]
theorem w_fX12_feed (g0 : gT) (fu : Nat) (p1 : Int32) (p2 : Int32) (p3 : Int32) (p4 : Int32) (p5 : Int32) (g : gT) (L : lT) (h_g : FW wA_fX12_feed wB_fX12_feed g0 g) : Kp wA_fX12_feed wB_fX12_feed g0 (fX12_feed fu p1 p2 p3 p4 p5 g L) := by
  unfold fX12_feed
  refine kp_stF (by decide) h_g (fun g1 h_g1 => ?_)
  refine kp_ite ?_ ?_
  ·
    refine kp_cb (w_fX12_lays _ _ _ _ _ FW.refl) rfl rfl h_g1 (fun x3 g4 L5 h_g4 => ?_)
    refine kp_cb (w_fX12_lays _ _ _ _ _ FW.refl) rfl rfl h_g4 (fun x7 g8 L9 h_g8 => ?_)
    refine kp_cb (w_fX12_lays _ _ _ _ _ FW.refl) rfl rfl h_g8 (fun x11 g12 L13 h_g12 => ?_)
    refine kp_cb (w_fX12_lays _ _ _ _ _ FW.refl) rfl rfl h_g12 (fun x15 g16 L17 h_g16 => ?_)
    refine kp_cb (w_fX12_lays _ _ _ _ _ FW.refl) rfl rfl h_g16 (fun x19 g20 L21 h_g20 => ?_)
    exact kp_some h_g20
  ·
    exact kp_some h_g1
abbrev wA_fX12_keeps : List (Nat × Nat) := [(0, 62)]
abbrev wB_fX12_keeps : List Nat := [36]
theorem w_fX12_keeps_p47 (g0 : gT) (fu : Nat) (v1 : Int32) (v2 : Int32) (g : gT) (L : lT) (h_g : FW wA_fX12_keeps wB_fX12_keeps g0 g) : Kp wA_fX12_keeps wB_fX12_keeps g0 (fX12_keeps_p47 fu v1 v2 g L) := by
  unfold fX12_keeps_p47
  refine kp_ck ?_
  refine kp_stB (by decide) h_g (fun g1 h_g1 => ?_)
  refine kp_ck ?_
  refine kp_stB (by decide) h_g1 (fun g2 h_g2 => ?_)
  refine kp_stF (by decide) h_g2 (fun g3 h_g3 => ?_)
  exact kp_some h_g3
theorem w_fX12_keeps_s11 (g0 : gT) (fu : Nat) (v1 : Int32) (v2 : Int32) (k11 : Int32 × gT × lT → Option ((Unit) × zS)) (v3 : Int32) (g : gT) (L : lT) (hk11 : ∀ v : Int32 × gT × lT, FW wA_fX12_keeps wB_fX12_keeps g0 (v.2.1) → Kp wA_fX12_keeps wB_fX12_keeps g0 (k11 v)) (h_g : FW wA_fX12_keeps wB_fX12_keeps g0 g) : Kp wA_fX12_keeps wB_fX12_keeps g0 (fX12_keeps_s11 fu v1 v2 k11 v3 g L) := by
  unfold fX12_keeps_s11
  refine kp_ite ?_ ?_
  ·
    refine kp_stF (by decide) h_g (fun g6 h_g6 => ?_)
    exact w_fX12_keeps_p47 _ _ _ _ _ _ h_g6
  ·
    refine kp_ck ?_
    refine kp_ck ?_
    refine kp_stB (by decide) h_g (fun g7 h_g7 => ?_)
    exact hk11 _ h_g7
theorem w_fX12_keeps_l11 (g0 : gT) (fu : Nat) (v1 : Int32) (v2 : Int32) (v3 : Int32) (g : gT) (L : lT) (h_g : FW wA_fX12_keeps wB_fX12_keeps g0 g) : Kp wA_fX12_keeps wB_fX12_keeps g0 (fX12_keeps_l11 fu v1 v2 v3 g L) := by
  unfold fX12_keeps_l11
  exact kp_loop (fun v => v.2.1) (fun k_ hk_ v hv_ => w_fX12_keeps_s11 _ _ _ _ _ _ _ _ hk_ hv_) h_g
theorem w_fX12_keeps (g0 : gT) (fu : Nat) (p1 : Int32) (p2 : Int32) (g : gT) (L : lT) (h_g : FW wA_fX12_keeps wB_fX12_keeps g0 g) : Kp wA_fX12_keeps wB_fX12_keeps g0 (fX12_keeps fu p1 p2 g L) := by
  unfold fX12_keeps
  refine kp_ite ?_ ?_
  ·
    exact w_fX12_keeps_l11 _ _ _ _ _ _ _ h_g
  ·
    exact w_fX12_keeps_p47 _ _ _ _ _ _ h_g
abbrev wA_fX12_refuses : List (Nat × Nat) := []
abbrev wB_fX12_refuses : List Nat := [14]
theorem w_fX12_refuses (g0 : gT) (fu : Nat) (p1 : Int32) (g : gT) (L : lT) (h_g : FW wA_fX12_refuses wB_fX12_refuses g0 g) : Kp wA_fX12_refuses wB_fX12_refuses g0 (fX12_refuses fu p1 g L) := by
  unfold fX12_refuses
  refine kp_ck ?_
  refine kp_ck ?_
  refine kp_stB (by decide) h_g (fun g1 h_g1 => ?_)
  exact kp_some h_g1
abbrev wA_fX12_become : List (Nat × Nat) := [(0, 0), (0, 62)]
abbrev wB_fX12_become : List Nat := [12, 14, 36]
theorem w_fX12_become_p22 (g0 : gT) (fu : Nat) (g : gT) (L : lT) (h_g : FW wA_fX12_become wB_fX12_become g0 g) : Kp wA_fX12_become wB_fX12_become g0 (fX12_become_p22 fu g L) := by
  unfold fX12_become_p22
  exact kp_some h_g
theorem w_fX12_become_p57 (g0 : gT) (fu : Nat) (v1 : Int32) (v2 : Int32) (v3 : Int32) (t0 : Int32) (t1 : Int32) (t2 : Int32) (g : gT) (L : lT) (h_g : FW wA_fX12_become wB_fX12_become g0 g) : Kp wA_fX12_become wB_fX12_become g0 (fX12_become_p57 fu v1 v2 v3 t0 t1 t2 g L) := by
  unfold fX12_become_p57
  refine kp_cb (w_fX12_within _ _ _ _ _ _ _ FW.refl) rfl rfl h_g (fun x12 g13 L14 h_g13 => ?_)
  refine kp_ite ?_ ?_
  ·
    refine kp_cb (w_fX12_refuses _ _ _ _ _ FW.refl) rfl rfl h_g13 (fun x24 g25 L26 h_g25 => ?_)
    exact kp_some h_g25
  ·
    refine kp_lti (fun x17 => ?_)
    refine kp_ck ?_
    refine kp_lti (fun x18 => ?_)
    refine kp_cb (w_fX12_keeps _ _ _ _ _ _ FW.refl) rfl rfl h_g13 (fun x19 g20 L21 h_g20 => ?_)
    refine kp_ck ?_
    refine kp_stB (by decide) h_g20 (fun g23 h_g23 => ?_)
    exact kp_some h_g23
theorem w_fX12_become (g0 : gT) (fu : Nat) (p1 : Int32) (p2 : Int32) (p3 : Int32) (g : gT) (L : lT) (h_g : FW wA_fX12_become wB_fX12_become g0 g) : Kp wA_fX12_become wB_fX12_become g0 (fX12_become fu p1 p2 p3 g L) := by
  unfold fX12_become
  refine kp_stF (by decide) h_g (fun g1 h_g1 => ?_)
  refine kp_cb (w_fX12_isLesson _ _ _ _ _ FW.refl) rfl rfl h_g1 (fun x2 g3 L4 h_g3 => ?_)
  refine kp_ite ?_ ?_
  ·
    exact w_fX12_become_p22 _ _ _ _ h_g3
  ·
    refine kp_cb (w_fX12_isWhat _ _ _ _ _ _ FW.refl) rfl rfl h_g3 (fun x7 g8 L9 h_g8 => ?_)
    refine kp_ite ?_ ?_
    ·
      exact w_fX12_become_p22 _ _ _ _ h_g8
    ·
      refine kp_ite ?_ ?_
      ·
        exact w_fX12_become_p57 _ _ _ _ _ _ _ _ _ _ h_g8
      ·
        refine kp_ite ?_ ?_
        ·
          exact w_fX12_become_p57 _ _ _ _ _ _ _ _ _ _ h_g8
        ·
          refine kp_ite ?_ ?_
          ·
            exact w_fX12_become_p57 _ _ _ _ _ _ _ _ _ _ h_g8
          ·
            exact w_fX12_become_p57 _ _ _ _ _ _ _ _ _ _ h_g8
abbrev wA_fX12_obey : List (Nat × Nat) := [(0, 0), (0, 52), (0, 62)]
abbrev wB_fX12_obey : List Nat := [14, 36]
theorem w_fX12_obey_p31 (g0 : gT) (fu : Nat) (t0 : Int32) (g : gT) (L : lT) (h_g : FW wA_fX12_obey wB_fX12_obey g0 g) : Kp wA_fX12_obey wB_fX12_obey g0 (fX12_obey_p31 fu t0 g L) := by
  unfold fX12_obey_p31
  refine kp_ckb ?_
  exact kp_some h_g
theorem w_fX12_obey_p18 (g0 : gT) (fu : Nat) (g : gT) (L : lT) (h_g : FW wA_fX12_obey wB_fX12_obey g0 g) : Kp wA_fX12_obey wB_fX12_obey g0 (fX12_obey_p18 fu g L) := by
  unfold fX12_obey_p18
  refine kp_cb (w_fX12_refuses _ _ _ _ _ FW.refl) rfl rfl h_g (fun x2 g3 L4 h_g3 => ?_)
  refine kp_ite ?_ ?_
  ·
    exact w_fX12_obey_p31 _ _ _ _ _ h_g3
  ·
    exact w_fX12_obey_p31 _ _ _ _ _ h_g3
theorem w_fX12_obey (g0 : gT) (fu : Nat) (p1 : Int32) (g : gT) (L : lT) (h_g : FW wA_fX12_obey wB_fX12_obey g0 g) : Kp wA_fX12_obey wB_fX12_obey g0 (fX12_obey fu p1 g L) := by
  unfold fX12_obey
  refine kp_stF (by decide) h_g (fun g1 h_g1 => ?_)
  refine kp_ite ?_ ?_
  ·
    exact w_fX12_obey_p18 _ _ _ _ h_g1
  ·
    refine kp_ite ?_ ?_
    ·
      refine kp_cb (w_fX12_keeps _ _ _ _ _ _ FW.refl) rfl rfl h_g1 (fun x9 g10 L11 h_g10 => ?_)
      refine kp_stF (by decide) h_g10 (fun g13 h_g13 => ?_)
      refine kp_ckb ?_
      exact kp_some h_g13
    ·
      exact w_fX12_obey_p18 _ _ _ _ h_g1
abbrev wA_fX12_undo : List (Nat × Nat) := [(0, 0), (0, 52), (0, 62)]
abbrev wB_fX12_undo : List Nat := [12]
theorem w_fX12_undo_p89 (g0 : gT) (fu : Nat) (g : gT) (L : lT) (h_g : FW wA_fX12_undo wB_fX12_undo g0 g) : Kp wA_fX12_undo wB_fX12_undo g0 (fX12_undo_p89 fu g L) := by
  unfold fX12_undo_p89
  exact kp_some h_g
theorem w_fX12_undo (g0 : gT) (fu : Nat) (g : gT) (L : lT) (h_g : FW wA_fX12_undo wB_fX12_undo g0 g) : Kp wA_fX12_undo wB_fX12_undo g0 (fX12_undo fu g L) := by
  unfold fX12_undo
  refine kp_stF (by decide) h_g (fun g1 h_g1 => ?_)
  refine kp_ite ?_ ?_
  ·
    exact kp_some h_g1
  ·
    refine kp_stF (by decide) h_g1 (fun g3 h_g3 => ?_)
    refine kp_ck ?_
    refine kp_ite ?_ ?_
    ·
      refine kp_ck ?_
      refine kp_stF (by decide) h_g3 (fun g6 h_g6 => ?_)
      exact w_fX12_undo_p89 _ _ _ _ h_g6
    ·
      refine kp_ck ?_
      refine kp_ck ?_
      refine kp_ck ?_
      refine kp_stB (by decide) h_g3 (fun g5 h_g5 => ?_)
      exact w_fX12_undo_p89 _ _ _ _ h_g5
abbrev wA_fX12_copies_32_37 : List (Nat × Nat) := []
abbrev wB_fX12_copies_32_37 : List Nat := [37]
theorem w_fX12_copies_32_37_s2 (g0 : gT) (fu : Nat) (k2 : Int32 × gT × lT → Option ((Unit) × zS)) (v3 : Int32) (g : gT) (L : lT) (hk2 : ∀ v : Int32 × gT × lT, FW wA_fX12_copies_32_37 wB_fX12_copies_32_37 g0 (v.2.1) → Kp wA_fX12_copies_32_37 wB_fX12_copies_32_37 g0 (k2 v)) (h_g : FW wA_fX12_copies_32_37 wB_fX12_copies_32_37 g0 g) : Kp wA_fX12_copies_32_37 wB_fX12_copies_32_37 g0 (fX12_copies_32_37_s2 fu k2 v3 g L) := by
  unfold fX12_copies_32_37_s2
  refine kp_ite ?_ ?_
  ·
    exact kp_some h_g
  ·
    refine kp_ck ?_
    refine kp_ck ?_
    refine kp_stB (by decide) h_g (fun g2 h_g2 => ?_)
    exact hk2 _ h_g2
theorem w_fX12_copies_32_37_l2 (g0 : gT) (fu : Nat) (v3 : Int32) (g : gT) (L : lT) (h_g : FW wA_fX12_copies_32_37 wB_fX12_copies_32_37 g0 g) : Kp wA_fX12_copies_32_37 wB_fX12_copies_32_37 g0 (fX12_copies_32_37_l2 fu v3 g L) := by
  unfold fX12_copies_32_37_l2
  exact kp_loop (fun v => v.2.1) (fun k_ hk_ v hv_ => w_fX12_copies_32_37_s2 _ _ _ _ _ _ hk_ hv_) h_g
theorem w_fX12_copies_32_37 (g0 : gT) (fu : Nat) (g : gT) (L : lT) (h_g : FW wA_fX12_copies_32_37 wB_fX12_copies_32_37 g0 g) : Kp wA_fX12_copies_32_37 wB_fX12_copies_32_37 g0 (fX12_copies_32_37 fu g L) := by
  unfold fX12_copies_32_37
  exact w_fX12_copies_32_37_l2 _ _ _ _ _ h_g
abbrev wA_fX12_moreBy : List (Nat × Nat) := [(0, 61)]
abbrev wB_fX12_moreBy : List Nat := [12, 29, 30, 31, 32, 33, 34, 35, 37]
theorem w_fX12_moreBy (g0 : gT) (fu : Nat) (p1 : Int32) (p2 : Int32) (g : gT) (L : lT) (h_g : FW wA_fX12_moreBy wB_fX12_moreBy g0 g) : Kp wA_fX12_moreBy wB_fX12_moreBy g0 (fX12_moreBy fu p1 p2 g L) := by
  unfold fX12_moreBy
  refine kp_cb (w_fX12_works0 _ _ _ _ FW.refl) rfl rfl h_g (fun x1 g2 L3 h_g2 => ?_)
  refine kp_cb (w_fX12_copies_32_37 _ _ _ _ FW.refl) rfl rfl h_g2 (fun x5 g6 L7 h_g6 => ?_)
  refine kp_cb (w_fX12_lates _ _ _ _ FW.refl) rfl rfl h_g6 (fun x9 g10 L11 h_g10 => ?_)
  refine kp_ck ?_
  refine kp_ck ?_
  refine kp_stB (by decide) h_g10 (fun g13 h_g13 => ?_)
  refine kp_stF (by decide) h_g13 (fun g14 h_g14 => ?_)
  refine kp_cb (w_fX12_works0 _ _ _ _ FW.refl) rfl rfl h_g14 (fun x15 g16 L17 h_g16 => ?_)
  refine kp_stF (by decide) h_g16 (fun g19 h_g19 => ?_)
  refine kp_ck ?_
  refine kp_ck ?_
  refine kp_stB (by decide) h_g19 (fun g20 h_g20 => ?_)
  refine kp_cb (w_fX12_lates _ _ _ _ FW.refl) rfl rfl h_g20 (fun x21 g22 L23 h_g22 => ?_)
  exact kp_some h_g22
abbrev wA_fX12_later : List (Nat × Nat) := []
abbrev wB_fX12_later : List Nat := []
theorem w_fX12_later_p35 (g0 : gT) (fu : Nat) (k4 : Int32 × Int32 × gT × lT → Option ((Int32) × zS)) (v2 : Int32) (t0 : Int32) (t1 : Int32) (g : gT) (L : lT) (hk4 : ∀ v : Int32 × Int32 × gT × lT, FW wA_fX12_later wB_fX12_later g0 (v.2.2.1) → Kp wA_fX12_later wB_fX12_later g0 (k4 v)) (h_g : FW wA_fX12_later wB_fX12_later g0 g) : Kp wA_fX12_later wB_fX12_later g0 (fX12_later_p35 fu k4 v2 t0 t1 g L) := by
  unfold fX12_later_p35
  refine kp_lti (fun x2 => ?_)
  exact hk4 _ h_g
theorem w_fX12_later_s4 (g0 : gT) (fu : Nat) (k4 : Int32 × Int32 × gT × lT → Option ((Int32) × zS)) (v1 : Int32) (v2 : Int32) (g : gT) (L : lT) (hk4 : ∀ v : Int32 × Int32 × gT × lT, FW wA_fX12_later wB_fX12_later g0 (v.2.2.1) → Kp wA_fX12_later wB_fX12_later g0 (k4 v)) (h_g : FW wA_fX12_later wB_fX12_later g0 g) : Kp wA_fX12_later wB_fX12_later g0 (fX12_later_s4 fu k4 v1 v2 g L) := by
  unfold fX12_later_s4
  refine kp_ite ?_ ?_
  ·
    exact kp_some h_g
  ·
    refine kp_ck ?_
    refine kp_ck ?_
    refine kp_ite ?_ ?_
    ·
      exact w_fX12_later_p35 _ _ _ _ _ _ _ _ hk4 h_g
    ·
      exact w_fX12_later_p35 _ _ _ _ _ _ _ _ hk4 h_g
theorem w_fX12_later_l4 (g0 : gT) (fu : Nat) (v1 : Int32) (v2 : Int32) (g : gT) (L : lT) (h_g : FW wA_fX12_later wB_fX12_later g0 g) : Kp wA_fX12_later wB_fX12_later g0 (fX12_later_l4 fu v1 v2 g L) := by
  unfold fX12_later_l4
  exact kp_loop (fun v => v.2.2.1) (fun k_ hk_ v hv_ => w_fX12_later_s4 _ _ _ _ _ _ _ hk_ hv_) h_g
theorem w_fX12_later (g0 : gT) (fu : Nat) (g : gT) (L : lT) (h_g : FW wA_fX12_later wB_fX12_later g0 g) : Kp wA_fX12_later wB_fX12_later g0 (fX12_later fu g L) := by
  unfold fX12_later
  exact w_fX12_later_l4 _ _ _ _ _ _ h_g
abbrev wA_fX12_far : List (Nat × Nat) := [(0, 0), (0, 61)]
abbrev wB_fX12_far : List Nat := [12, 29, 30, 31, 32, 33, 34, 35, 37]
theorem w_fX12_far_p37 (g0 : gT) (fu : Nat) (g : gT) (L : lT) (h_g : FW wA_fX12_far wB_fX12_far g0 g) : Kp wA_fX12_far wB_fX12_far g0 (fX12_far_p37 fu g L) := by
  unfold fX12_far_p37
  exact kp_some h_g
theorem w_fX12_far_p60 (g0 : gT) (fu : Nat) (t0 : Int32) (g : gT) (L : lT) (h_g : FW wA_fX12_far wB_fX12_far g0 g) : Kp wA_fX12_far wB_fX12_far g0 (fX12_far_p60 fu t0 g L) := by
  unfold fX12_far_p60
  exact kp_some h_g
theorem w_fX12_far (g0 : gT) (fu : Nat) (p1 : Int32) (p2 : Int32) (p3 : Int32) (g : gT) (L : lT) (h_g : FW wA_fX12_far wB_fX12_far g0 g) : Kp wA_fX12_far wB_fX12_far g0 (fX12_far fu p1 p2 p3 g L) := by
  unfold fX12_far
  refine kp_stF (by decide) h_g (fun g1 h_g1 => ?_)
  refine kp_cb (w_fX12_isLesson _ _ _ _ _ FW.refl) rfl rfl h_g1 (fun x2 g3 L4 h_g3 => ?_)
  refine kp_ite ?_ ?_
  ·
    exact w_fX12_far_p37 _ _ _ _ h_g3
  ·
    refine kp_cb (w_fX12_isWhat _ _ _ _ _ _ FW.refl) rfl rfl h_g3 (fun x7 g8 L9 h_g8 => ?_)
    refine kp_ite ?_ ?_
    ·
      exact w_fX12_far_p37 _ _ _ _ h_g8
    ·
      refine kp_cb (w_fX12_within _ _ _ _ _ _ _ FW.refl) rfl rfl h_g8 (fun x12 g13 L14 h_g13 => ?_)
      refine kp_cb (w_fX12_right _ _ _ _ _ _ FW.refl) rfl rfl h_g13 (fun x16 g17 L18 h_g17 => ?_)
      refine kp_ite ?_ ?_
      ·
        exact w_fX12_far_p37 _ _ _ _ h_g17
      ·
        refine kp_cb (w_fX12_moreBy _ _ _ _ _ _ FW.refl) rfl rfl h_g17 (fun x21 g22 L23 h_g22 => ?_)
        refine kp_ite ?_ ?_
        ·
          refine kp_cb (w_fX12_later _ _ _ _ FW.refl) rfl rfl h_g22 (fun x26 g27 L28 h_g27 => ?_)
          exact w_fX12_far_p60 _ _ _ _ _ h_g27
        ·
          exact w_fX12_far_p60 _ _ _ _ _ h_g22
abbrev wA_fX12_reaches : List (Nat × Nat) := [(0, 0), (0, 61)]
abbrev wB_fX12_reaches : List Nat := [12, 29, 30, 31, 32, 33, 34, 35, 37]
theorem w_fX12_reaches_p39 (g0 : gT) (fu : Nat) (g : gT) (L : lT) (h_g : FW wA_fX12_reaches wB_fX12_reaches g0 g) : Kp wA_fX12_reaches wB_fX12_reaches g0 (fX12_reaches_p39 fu g L) := by
  unfold fX12_reaches_p39
  exact kp_some h_g
theorem w_fX12_reaches_s43 (g0 : gT) (fu : Nat) (v1 : Int32) (v2 : Int32) (k43 : Int32 × gT × lT → Option ((Int32) × zS)) (v3 : Int32) (g : gT) (L : lT) (hk43 : ∀ v : Int32 × gT × lT, FW wA_fX12_reaches wB_fX12_reaches g0 (v.2.1) → Kp wA_fX12_reaches wB_fX12_reaches g0 (k43 v)) (h_g : FW wA_fX12_reaches wB_fX12_reaches g0 g) : Kp wA_fX12_reaches wB_fX12_reaches g0 (fX12_reaches_s43 fu v1 v2 k43 v3 g L) := by
  unfold fX12_reaches_s43
  refine kp_ite ?_ ?_
  ·
    exact kp_some h_g
  ·
    refine kp_cb (w_fX12_moreBy _ _ _ _ _ _ FW.refl) rfl rfl h_g (fun x18 g19 L20 h_g19 => ?_)
    refine kp_cb (w_fX12_later _ _ _ _ FW.refl) rfl rfl h_g19 (fun x22 g23 L24 h_g23 => ?_)
    refine kp_ite ?_ ?_
    ·
      exact kp_some h_g23
    ·
      exact hk43 _ h_g23
theorem w_fX12_reaches_l43 (g0 : gT) (fu : Nat) (v1 : Int32) (v2 : Int32) (v3 : Int32) (g : gT) (L : lT) (h_g : FW wA_fX12_reaches wB_fX12_reaches g0 g) : Kp wA_fX12_reaches wB_fX12_reaches g0 (fX12_reaches_l43 fu v1 v2 v3 g L) := by
  unfold fX12_reaches_l43
  exact kp_loop (fun v => v.2.1) (fun k_ hk_ v hv_ => w_fX12_reaches_s43 _ _ _ _ _ _ _ _ hk_ hv_) h_g
theorem w_fX12_reaches_p32 (g0 : gT) (fu : Nat) (v1 : Int32) (v2 : Int32) (t0 : Int32) (g : gT) (L : lT) (h_g : FW wA_fX12_reaches wB_fX12_reaches g0 g) : Kp wA_fX12_reaches wB_fX12_reaches g0 (fX12_reaches_p32 fu v1 v2 t0 g L) := by
  unfold fX12_reaches_p32
  refine kp_cb (w_fX12_right _ _ _ _ _ _ FW.refl) rfl rfl h_g (fun x12 g13 L14 h_g13 => ?_)
  refine kp_ite ?_ ?_
  ·
    exact w_fX12_reaches_p39 _ _ _ _ h_g13
  ·
    exact w_fX12_reaches_l43 _ _ _ _ _ _ _ h_g13
theorem w_fX12_reaches (g0 : gT) (fu : Nat) (p1 : Int32) (p2 : Int32) (g : gT) (L : lT) (h_g : FW wA_fX12_reaches wB_fX12_reaches g0 g) : Kp wA_fX12_reaches wB_fX12_reaches g0 (fX12_reaches fu p1 p2 g L) := by
  unfold fX12_reaches
  refine kp_stF (by decide) h_g (fun g1 h_g1 => ?_)
  refine kp_cb (w_fX12_isLesson _ _ _ _ _ FW.refl) rfl rfl h_g1 (fun x2 g3 L4 h_g3 => ?_)
  refine kp_ite ?_ ?_
  ·
    exact w_fX12_reaches_p39 _ _ _ _ h_g3
  ·
    refine kp_cb (w_fX12_isLesson _ _ _ _ _ FW.refl) rfl rfl h_g3 (fun x7 g8 L9 h_g8 => ?_)
    refine kp_ite ?_ ?_
    ·
      exact w_fX12_reaches_p39 _ _ _ _ h_g8
    ·
      refine kp_ite ?_ ?_
      ·
        exact w_fX12_reaches_p32 _ _ _ _ _ _ _ h_g8
      ·
        exact w_fX12_reaches_p32 _ _ _ _ _ _ _ h_g8
abbrev wA_fX12_slack : List (Nat × Nat) := [(0, 0), (0, 61)]
abbrev wB_fX12_slack : List Nat := [12, 29, 30, 31, 32, 33, 34, 35, 37]
theorem w_fX12_slack_s18 (g0 : gT) (fu : Nat) (v1 : Int32) (k18 : Int32 × gT × lT → Option ((Int32) × zS)) (v2 : Int32) (g : gT) (L : lT) (hk18 : ∀ v : Int32 × gT × lT, FW wA_fX12_slack wB_fX12_slack g0 (v.2.1) → Kp wA_fX12_slack wB_fX12_slack g0 (k18 v)) (h_g : FW wA_fX12_slack wB_fX12_slack g0 g) : Kp wA_fX12_slack wB_fX12_slack g0 (fX12_slack_s18 fu v1 k18 v2 g L) := by
  unfold fX12_slack_s18
  refine kp_ite ?_ ?_
  ·
    exact kp_some h_g
  ·
    refine kp_cb (w_fX12_moreBy _ _ _ _ _ _ FW.refl) rfl rfl h_g (fun x8 g9 L10 h_g9 => ?_)
    refine kp_cb (w_fX12_later _ _ _ _ FW.refl) rfl rfl h_g9 (fun x12 g13 L14 h_g13 => ?_)
    refine kp_ite ?_ ?_
    ·
      exact kp_some h_g13
    ·
      exact hk18 _ h_g13
theorem w_fX12_slack_l18 (g0 : gT) (fu : Nat) (v1 : Int32) (v2 : Int32) (g : gT) (L : lT) (h_g : FW wA_fX12_slack wB_fX12_slack g0 g) : Kp wA_fX12_slack wB_fX12_slack g0 (fX12_slack_l18 fu v1 v2 g L) := by
  unfold fX12_slack_l18
  exact kp_loop (fun v => v.2.1) (fun k_ hk_ v hv_ => w_fX12_slack_s18 _ _ _ _ _ _ _ hk_ hv_) h_g
theorem w_fX12_slack (g0 : gT) (fu : Nat) (p1 : Int32) (g : gT) (L : lT) (h_g : FW wA_fX12_slack wB_fX12_slack g0 g) : Kp wA_fX12_slack wB_fX12_slack g0 (fX12_slack fu p1 g L) := by
  unfold fX12_slack
  refine kp_stF (by decide) h_g (fun g1 h_g1 => ?_)
  refine kp_cb (w_fX12_isLesson _ _ _ _ _ FW.refl) rfl rfl h_g1 (fun x2 g3 L4 h_g3 => ?_)
  refine kp_ite ?_ ?_
  ·
    exact kp_some h_g3
  ·
    exact w_fX12_slack_l18 _ _ _ _ _ _ h_g3
abbrev wA_fX12_bits : List (Nat × Nat) := []
abbrev wB_fX12_bits : List Nat := []
theorem w_fX12_bits_s4 (g0 : gT) (fu : Nat) (v0 : Int32) (k4 : Int32 × Int32 × gT × lT → Option ((Int32) × zS)) (v1 : Int32) (v2 : Int32) (g : gT) (L : lT) (hk4 : ∀ v : Int32 × Int32 × gT × lT, FW wA_fX12_bits wB_fX12_bits g0 (v.2.2.1) → Kp wA_fX12_bits wB_fX12_bits g0 (k4 v)) (h_g : FW wA_fX12_bits wB_fX12_bits g0 g) : Kp wA_fX12_bits wB_fX12_bits g0 (fX12_bits_s4 fu v0 k4 v1 v2 g L) := by
  unfold fX12_bits_s4
  refine kp_ite ?_ ?_
  ·
    exact kp_some h_g
  ·
    refine kp_lti (fun x2 => ?_)
    exact hk4 _ h_g
theorem w_fX12_bits_l4 (g0 : gT) (fu : Nat) (v0 : Int32) (v1 : Int32) (v2 : Int32) (g : gT) (L : lT) (h_g : FW wA_fX12_bits wB_fX12_bits g0 g) : Kp wA_fX12_bits wB_fX12_bits g0 (fX12_bits_l4 fu v0 v1 v2 g L) := by
  unfold fX12_bits_l4
  exact kp_loop (fun v => v.2.2.1) (fun k_ hk_ v hv_ => w_fX12_bits_s4 _ _ _ _ _ _ _ _ hk_ hv_) h_g
theorem w_fX12_bits (g0 : gT) (fu : Nat) (p1 : Int32) (g : gT) (L : lT) (h_g : FW wA_fX12_bits wB_fX12_bits g0 g) : Kp wA_fX12_bits wB_fX12_bits g0 (fX12_bits fu p1 g L) := by
  unfold fX12_bits
  exact w_fX12_bits_l4 _ _ _ _ _ _ _ h_g
abbrev wA_fX12_gaps : List (Nat × Nat) := [(0, 0), (0, 65)]
abbrev wB_fX12_gaps : List Nat := [12, 29, 30, 31, 32, 33, 34, 35, 38, 39, 40]
theorem w_fX12_gaps_p59 (g0 : gT) (fu : Nat) (g : gT) (L : lT) (h_g : FW wA_fX12_gaps wB_fX12_gaps g0 g) : Kp wA_fX12_gaps wB_fX12_gaps g0 (fX12_gaps_p59 fu g L) := by
  unfold fX12_gaps_p59
  exact kp_some h_g
theorem w_fX12_gaps_p336 (g0 : gT) (fu : Nat) (v6 : Int32) (g : gT) (L : lT) (h_g : FW wA_fX12_gaps wB_fX12_gaps g0 g) : Kp wA_fX12_gaps wB_fX12_gaps g0 (fX12_gaps_p336 fu v6 g L) := by
  unfold fX12_gaps_p336
  exact kp_some h_g
theorem w_fX12_gaps_s295 (g0 : gT) (fu : Nat) (v6 : Int32) (k295 : Int32 × gT × lT → Option ((Int32) × zS)) (v7 : Int32) (g : gT) (L : lT) (hk295 : ∀ v : Int32 × gT × lT, FW wA_fX12_gaps wB_fX12_gaps g0 (v.2.1) → Kp wA_fX12_gaps wB_fX12_gaps g0 (k295 v)) (h_g : FW wA_fX12_gaps wB_fX12_gaps g0 g) : Kp wA_fX12_gaps wB_fX12_gaps g0 (fX12_gaps_s295 fu v6 k295 v7 g L) := by
  unfold fX12_gaps_s295
  refine kp_ite ?_ ?_
  ·
    refine kp_ite ?_ ?_
    ·
      exact w_fX12_gaps_p336 _ _ _ _ _ h_g
    ·
      refine kp_stF (by decide) h_g (fun g17 h_g17 => ?_)
      exact w_fX12_gaps_p336 _ _ _ _ _ h_g17
  ·
    refine kp_ck ?_
    refine kp_ck ?_
    refine kp_stB (by decide) h_g (fun g18 h_g18 => ?_)
    exact hk295 _ h_g18
theorem w_fX12_gaps_l295 (g0 : gT) (fu : Nat) (v6 : Int32) (v7 : Int32) (g : gT) (L : lT) (h_g : FW wA_fX12_gaps wB_fX12_gaps g0 g) : Kp wA_fX12_gaps wB_fX12_gaps g0 (fX12_gaps_l295 fu v6 v7 g L) := by
  unfold fX12_gaps_l295
  exact kp_loop (fun v => v.2.1) (fun k_ hk_ v hv_ => w_fX12_gaps_s295 _ _ _ _ _ _ _ hk_ hv_) h_g
theorem w_fX12_gaps_p286 (g0 : gT) (fu : Nat) (k152 : Int32 × Int32 × gT × lT → Option ((Int32) × zS)) (v2 : Int32) (v3 : Int32) (v4 : Int32) (v5 : Int32) (v6 : Int32) (v7 : Int32) (g : gT) (L : lT) (hk152 : ∀ v : Int32 × Int32 × gT × lT, FW wA_fX12_gaps wB_fX12_gaps g0 (v.2.2.1) → Kp wA_fX12_gaps wB_fX12_gaps g0 (k152 v)) (h_g : FW wA_fX12_gaps wB_fX12_gaps g0 g) : Kp wA_fX12_gaps wB_fX12_gaps g0 (fX12_gaps_p286 fu k152 v2 v3 v4 v5 v6 v7 g L) := by
  unfold fX12_gaps_p286
  exact hk152 _ h_g
theorem w_fX12_gaps_s256 (g0 : gT) (fu : Nat) (k152 : Int32 × Int32 × gT × lT → Option ((Int32) × zS)) (v2 : Int32) (v3 : Int32) (v4 : Int32) (v5 : Int32) (v6 : Int32) (v7 : Int32) (k256 : Int32 × gT × lT → Option ((Int32) × zS)) (v10 : Int32) (g : gT) (L : lT) (hk152 : ∀ v : Int32 × Int32 × gT × lT, FW wA_fX12_gaps wB_fX12_gaps g0 (v.2.2.1) → Kp wA_fX12_gaps wB_fX12_gaps g0 (k152 v)) (hk256 : ∀ v : Int32 × gT × lT, FW wA_fX12_gaps wB_fX12_gaps g0 (v.2.1) → Kp wA_fX12_gaps wB_fX12_gaps g0 (k256 v)) (h_g : FW wA_fX12_gaps wB_fX12_gaps g0 g) : Kp wA_fX12_gaps wB_fX12_gaps g0 (fX12_gaps_s256 fu k152 v2 v3 v4 v5 v6 v7 k256 v10 g L) := by
  unfold fX12_gaps_s256
  refine kp_ite ?_ ?_
  ·
    exact w_fX12_gaps_p286 _ _ _ _ _ _ _ _ _ _ _ hk152 h_g
  ·
    refine kp_ck ?_
    refine kp_ck ?_
    refine kp_stB (by decide) h_g (fun g31 h_g31 => ?_)
    exact hk256 _ h_g31
theorem w_fX12_gaps_l256 (g0 : gT) (fu : Nat) (k152 : Int32 × Int32 × gT × lT → Option ((Int32) × zS)) (v2 : Int32) (v3 : Int32) (v4 : Int32) (v5 : Int32) (v6 : Int32) (v7 : Int32) (v10 : Int32) (g : gT) (L : lT) (hk152 : ∀ v : Int32 × Int32 × gT × lT, FW wA_fX12_gaps wB_fX12_gaps g0 (v.2.2.1) → Kp wA_fX12_gaps wB_fX12_gaps g0 (k152 v)) (h_g : FW wA_fX12_gaps wB_fX12_gaps g0 g) : Kp wA_fX12_gaps wB_fX12_gaps g0 (fX12_gaps_l256 fu k152 v2 v3 v4 v5 v6 v7 v10 g L) := by
  unfold fX12_gaps_l256
  exact kp_loop (fun v => v.2.1) (fun k_ hk_ v hv_ => w_fX12_gaps_s256 _ _ _ _ _ _ _ _ _ _ _ _ _ hk152 hk_ hv_) h_g
theorem w_fX12_gaps_p233 (g0 : gT) (fu : Nat) (k152 : Int32 × Int32 × gT × lT → Option ((Int32) × zS)) (v2 : Int32) (v3 : Int32) (v4 : Int32) (v5 : Int32) (v6 : Int32) (v7 : Int32) (v8 : Int32) (g : gT) (L : lT) (hk152 : ∀ v : Int32 × Int32 × gT × lT, FW wA_fX12_gaps wB_fX12_gaps g0 (v.2.2.1) → Kp wA_fX12_gaps wB_fX12_gaps g0 (k152 v)) (h_g : FW wA_fX12_gaps wB_fX12_gaps g0 g) : Kp wA_fX12_gaps wB_fX12_gaps g0 (fX12_gaps_p233 fu k152 v2 v3 v4 v5 v6 v7 v8 g L) := by
  unfold fX12_gaps_p233
  refine kp_cb (w_fX12_works0 _ _ _ _ FW.refl) rfl rfl h_g (fun x21 g22 L23 h_g22 => ?_)
  refine kp_cb (w_fX12_late _ _ _ _ _ FW.refl) rfl rfl h_g22 (fun x25 g26 L27 h_g26 => ?_)
  refine kp_ite ?_ ?_
  ·
    exact w_fX12_gaps_l256 _ _ _ _ _ _ _ _ _ _ _ _ hk152 h_g26
  ·
    exact w_fX12_gaps_p286 _ _ _ _ _ _ _ _ _ _ _ hk152 h_g26
theorem w_fX12_gaps_s172 (g0 : gT) (fu : Nat) (k152 : Int32 × Int32 × gT × lT → Option ((Int32) × zS)) (v2 : Int32) (v3 : Int32) (v4 : Int32) (v5 : Int32) (v6 : Int32) (v7 : Int32) (k172 : Int32 × Int32 × Int32 × gT × lT → Option ((Int32) × zS)) (v8 : Int32) (v9 : Int32) (v10 : Int32) (g : gT) (L : lT) (hk152 : ∀ v : Int32 × Int32 × gT × lT, FW wA_fX12_gaps wB_fX12_gaps g0 (v.2.2.1) → Kp wA_fX12_gaps wB_fX12_gaps g0 (k152 v)) (hk172 : ∀ v : Int32 × Int32 × Int32 × gT × lT, FW wA_fX12_gaps wB_fX12_gaps g0 (v.2.2.2.1) → Kp wA_fX12_gaps wB_fX12_gaps g0 (k172 v)) (h_g : FW wA_fX12_gaps wB_fX12_gaps g0 g) : Kp wA_fX12_gaps wB_fX12_gaps g0 (fX12_gaps_s172 fu k152 v2 v3 v4 v5 v6 v7 k172 v8 v9 v10 g L) := by
  unfold fX12_gaps_s172
  refine kp_ite ?_ ?_
  ·
    refine kp_ite ?_ ?_
    ·
      exact w_fX12_gaps_p233 _ _ _ _ _ _ _ _ _ _ _ _ hk152 h_g
    ·
      refine kp_ite ?_ ?_
      ·
        exact w_fX12_gaps_p233 _ _ _ _ _ _ _ _ _ _ _ _ hk152 h_g
      ·
        exact w_fX12_gaps_p286 _ _ _ _ _ _ _ _ _ _ _ hk152 h_g
  ·
    refine kp_ck ?_
    refine kp_cnz ?_
    refine kp_ck ?_
    refine kp_stB (by decide) h_g (fun g34 h_g34 => ?_)
    refine kp_cnz ?_
    refine kp_lti (fun x35 => ?_)
    refine kp_cnz ?_
    refine kp_lti (fun x36 => ?_)
    exact hk172 _ h_g34
theorem w_fX12_gaps_l172 (g0 : gT) (fu : Nat) (k152 : Int32 × Int32 × gT × lT → Option ((Int32) × zS)) (v2 : Int32) (v3 : Int32) (v4 : Int32) (v5 : Int32) (v6 : Int32) (v7 : Int32) (v8 : Int32) (v9 : Int32) (v10 : Int32) (g : gT) (L : lT) (hk152 : ∀ v : Int32 × Int32 × gT × lT, FW wA_fX12_gaps wB_fX12_gaps g0 (v.2.2.1) → Kp wA_fX12_gaps wB_fX12_gaps g0 (k152 v)) (h_g : FW wA_fX12_gaps wB_fX12_gaps g0 g) : Kp wA_fX12_gaps wB_fX12_gaps g0 (fX12_gaps_l172 fu k152 v2 v3 v4 v5 v6 v7 v8 v9 v10 g L) := by
  unfold fX12_gaps_l172
  exact kp_loop (fun v => v.2.2.2.1) (fun k_ hk_ v hv_ => w_fX12_gaps_s172 _ _ _ _ _ _ _ _ _ _ _ _ _ _ _ hk152 hk_ hv_) h_g
theorem w_fX12_gaps_s152 (g0 : gT) (fu : Nat) (v2 : Int32) (v3 : Int32) (v4 : Int32) (v5 : Int32) (k152 : Int32 × Int32 × gT × lT → Option ((Int32) × zS)) (v6 : Int32) (v7 : Int32) (g : gT) (L : lT) (hk152 : ∀ v : Int32 × Int32 × gT × lT, FW wA_fX12_gaps wB_fX12_gaps g0 (v.2.2.1) → Kp wA_fX12_gaps wB_fX12_gaps g0 (k152 v)) (h_g : FW wA_fX12_gaps wB_fX12_gaps g0 g) : Kp wA_fX12_gaps wB_fX12_gaps g0 (fX12_gaps_s152 fu v2 v3 v4 v5 k152 v6 v7 g L) := by
  unfold fX12_gaps_s152
  refine kp_ite ?_ ?_
  ·
    exact w_fX12_gaps_l295 _ _ _ _ _ _ h_g
  ·
    refine kp_lti (fun x19 => ?_)
    exact w_fX12_gaps_l172 _ _ _ _ _ _ _ _ _ _ _ _ _ _ hk152 h_g
theorem w_fX12_gaps_l152 (g0 : gT) (fu : Nat) (v2 : Int32) (v3 : Int32) (v4 : Int32) (v5 : Int32) (v6 : Int32) (v7 : Int32) (g : gT) (L : lT) (h_g : FW wA_fX12_gaps wB_fX12_gaps g0 g) : Kp wA_fX12_gaps wB_fX12_gaps g0 (fX12_gaps_l152 fu v2 v3 v4 v5 v6 v7 g L) := by
  unfold fX12_gaps_l152
  exact kp_loop (fun v => v.2.2.1) (fun k_ hk_ v hv_ => w_fX12_gaps_s152 _ _ _ _ _ _ _ _ _ _ _ hk_ hv_) h_g
theorem w_fX12_gaps_s127 (g0 : gT) (fu : Nat) (v2 : Int32) (v3 : Int32) (v4 : Int32) (k127 : Int32 × Int32 × gT × lT → Option ((Int32) × zS)) (v5 : Int32) (v6 : Int32) (g : gT) (L : lT) (hk127 : ∀ v : Int32 × Int32 × gT × lT, FW wA_fX12_gaps wB_fX12_gaps g0 (v.2.2.1) → Kp wA_fX12_gaps wB_fX12_gaps g0 (k127 v)) (h_g : FW wA_fX12_gaps wB_fX12_gaps g0 g) : Kp wA_fX12_gaps wB_fX12_gaps g0 (fX12_gaps_s127 fu v2 v3 v4 k127 v5 v6 g L) := by
  unfold fX12_gaps_s127
  refine kp_ite ?_ ?_
  ·
    exact w_fX12_gaps_l152 _ _ _ _ _ _ _ _ _ _ h_g
  ·
    refine kp_lti (fun x37 => ?_)
    exact hk127 _ h_g
theorem w_fX12_gaps_l127 (g0 : gT) (fu : Nat) (v2 : Int32) (v3 : Int32) (v4 : Int32) (v5 : Int32) (v6 : Int32) (g : gT) (L : lT) (h_g : FW wA_fX12_gaps wB_fX12_gaps g0 g) : Kp wA_fX12_gaps wB_fX12_gaps g0 (fX12_gaps_l127 fu v2 v3 v4 v5 v6 g L) := by
  unfold fX12_gaps_l127
  exact kp_loop (fun v => v.2.2.1) (fun k_ hk_ v hv_ => w_fX12_gaps_s127 _ _ _ _ _ _ _ _ _ _ hk_ hv_) h_g
theorem w_fX12_gaps_p115 (g0 : gT) (fu : Nat) (k67 : Int32 × Int32 × gT × lT → Option ((Int32) × zS)) (v1 : Int32) (v2 : Int32) (v3 : Int32) (v4 : Int32) (v5 : Int32) (g : gT) (L : lT) (hk67 : ∀ v : Int32 × Int32 × gT × lT, FW wA_fX12_gaps wB_fX12_gaps g0 (v.2.2.1) → Kp wA_fX12_gaps wB_fX12_gaps g0 (k67 v)) (h_g : FW wA_fX12_gaps wB_fX12_gaps g0 g) : Kp wA_fX12_gaps wB_fX12_gaps g0 (fX12_gaps_p115 fu k67 v1 v2 v3 v4 v5 g L) := by
  unfold fX12_gaps_p115
  exact hk67 _ h_g
theorem w_fX12_gaps_s67 (g0 : gT) (fu : Nat) (v1 : Int32) (v2 : Int32) (v3 : Int32) (k67 : Int32 × Int32 × gT × lT → Option ((Int32) × zS)) (v4 : Int32) (v5 : Int32) (g : gT) (L : lT) (hk67 : ∀ v : Int32 × Int32 × gT × lT, FW wA_fX12_gaps wB_fX12_gaps g0 (v.2.2.1) → Kp wA_fX12_gaps wB_fX12_gaps g0 (k67 v)) (h_g : FW wA_fX12_gaps wB_fX12_gaps g0 g) : Kp wA_fX12_gaps wB_fX12_gaps g0 (fX12_gaps_s67 fu v1 v2 v3 k67 v4 v5 g L) := by
  unfold fX12_gaps_s67
  refine kp_ite ?_ ?_
  ·
    exact w_fX12_gaps_l127 _ _ _ _ _ _ _ _ _ h_g
  ·
    refine kp_ck ?_
    refine kp_ck ?_
    refine kp_stB (by decide) h_g (fun g38 h_g38 => ?_)
    refine kp_ite ?_ ?_
    ·
      exact w_fX12_gaps_p115 _ _ _ _ _ _ _ _ _ _ hk67 h_g38
    ·
      refine kp_ck ?_
      refine kp_stB (by decide) h_g38 (fun g40 h_g40 => ?_)
      exact w_fX12_gaps_p115 _ _ _ _ _ _ _ _ _ _ hk67 h_g40
theorem w_fX12_gaps_l67 (g0 : gT) (fu : Nat) (v1 : Int32) (v2 : Int32) (v3 : Int32) (v4 : Int32) (v5 : Int32) (g : gT) (L : lT) (h_g : FW wA_fX12_gaps wB_fX12_gaps g0 g) : Kp wA_fX12_gaps wB_fX12_gaps g0 (fX12_gaps_l67 fu v1 v2 v3 v4 v5 g L) := by
  unfold fX12_gaps_l67
  exact kp_loop (fun v => v.2.2.1) (fun k_ hk_ v hv_ => w_fX12_gaps_s67 _ _ _ _ _ _ _ _ _ _ hk_ hv_) h_g
theorem w_fX12_gaps_p52 (g0 : gT) (fu : Nat) (v1 : Int32) (v2 : Int32) (v3 : Int32) (t0 : Int32) (g : gT) (L : lT) (h_g : FW wA_fX12_gaps wB_fX12_gaps g0 g) : Kp wA_fX12_gaps wB_fX12_gaps g0 (fX12_gaps_p52 fu v1 v2 v3 t0 g L) := by
  unfold fX12_gaps_p52
  refine kp_cb (w_fX12_right _ _ _ _ _ _ FW.refl) rfl rfl h_g (fun x7 g8 L9 h_g8 => ?_)
  refine kp_ite ?_ ?_
  ·
    exact w_fX12_gaps_p59 _ _ _ _ h_g8
  ·
    exact w_fX12_gaps_l67 _ _ _ _ _ _ _ _ _ h_g8
theorem w_fX12_gaps_p51 (g0 : gT) (fu : Nat) (v1 : Int32) (v2 : Int32) (v3 : Int32) (g : gT) (L : lT) (h_g : FW wA_fX12_gaps wB_fX12_gaps g0 g) : Kp wA_fX12_gaps wB_fX12_gaps g0 (fX12_gaps_p51 fu v1 v2 v3 g L) := by
  unfold fX12_gaps_p51
  exact w_fX12_gaps_p52 _ _ _ _ _ _ _ _ h_g
theorem w_fX12_gaps (g0 : gT) (fu : Nat) (p1 : Int32) (p2 : Int32) (p3 : Int32) (g : gT) (L : lT) (h_g : FW wA_fX12_gaps wB_fX12_gaps g0 g) : Kp wA_fX12_gaps wB_fX12_gaps g0 (fX12_gaps fu p1 p2 p3 g L) := by
  unfold fX12_gaps
  refine kp_stF (by decide) h_g (fun g1 h_g1 => ?_)
  refine kp_cb (w_fX12_isLesson _ _ _ _ _ FW.refl) rfl rfl h_g1 (fun x2 g3 L4 h_g3 => ?_)
  refine kp_ite ?_ ?_
  ·
    exact w_fX12_gaps_p59 _ _ _ _ h_g3
  ·
    refine kp_ite ?_ ?_
    ·
      exact w_fX12_gaps_p51 _ _ _ _ _ _ _ h_g3
    ·
      refine kp_ite ?_ ?_
      ·
        exact w_fX12_gaps_p51 _ _ _ _ _ _ _ h_g3
      ·
        refine kp_cb (w_fX12_bits _ _ _ _ _ FW.refl) rfl rfl h_g3 (fun x43 g44 L45 h_g44 => ?_)
        refine kp_ite ?_ ?_
        ·
          exact w_fX12_gaps_p51 _ _ _ _ _ _ _ h_g44
        ·
          refine kp_cb (w_fX12_within _ _ _ _ _ _ _ FW.refl) rfl rfl h_g44 (fun x48 g49 L50 h_g49 => ?_)
          refine kp_ite ?_ ?_
          ·
            exact w_fX12_gaps_p51 _ _ _ _ _ _ _ h_g49
          ·
            exact w_fX12_gaps_p52 _ _ _ _ _ _ _ _ h_g49
abbrev wA_fX12_gap : List (Nat × Nat) := [(0, 0)]
abbrev wB_fX12_gap : List Nat := []
theorem w_fX12_gap_p35 (g0 : gT) (fu : Nat) (t0 : Int32) (g : gT) (L : lT) (h_g : FW wA_fX12_gap wB_fX12_gap g0 g) : Kp wA_fX12_gap wB_fX12_gap g0 (fX12_gap_p35 fu t0 g L) := by
  unfold fX12_gap_p35
  exact kp_some h_g
theorem w_fX12_gap_p34 (g0 : gT) (fu : Nat) (g : gT) (L : lT) (h_g : FW wA_fX12_gap wB_fX12_gap g0 g) : Kp wA_fX12_gap wB_fX12_gap g0 (fX12_gap_p34 fu g L) := by
  unfold fX12_gap_p34
  exact w_fX12_gap_p35 _ _ _ _ _ h_g
theorem w_fX12_gap (g0 : gT) (fu : Nat) (p1 : Int32) (g : gT) (L : lT) (h_g : FW wA_fX12_gap wB_fX12_gap g0 g) : Kp wA_fX12_gap wB_fX12_gap g0 (fX12_gap fu p1 g L) := by
  unfold fX12_gap
  refine kp_stF (by decide) h_g (fun g1 h_g1 => ?_)
  refine kp_cb (w_fX12_isLesson _ _ _ _ _ FW.refl) rfl rfl h_g1 (fun x2 g3 L4 h_g3 => ?_)
  refine kp_ite ?_ ?_
  ·
    exact w_fX12_gap_p34 _ _ _ _ h_g3
  ·
    refine kp_cb (w_fX12_right _ _ _ _ _ _ FW.refl) rfl rfl h_g3 (fun x7 g8 L9 h_g8 => ?_)
    refine kp_ite ?_ ?_
    ·
      exact w_fX12_gap_p34 _ _ _ _ h_g8
    ·
      refine kp_ck ?_
      exact w_fX12_gap_p35 _ _ _ _ _ h_g8
abbrev wA_fX12_asks : List (Nat × Nat) := [(0, 70), (0, 71)]
abbrev wB_fX12_asks : List Nat := [41]
theorem w_fX12_asks_p88 (g0 : gT) (fu : Nat) (k12 : Int32 × gT × lT → Option ((Unit) × zS)) (v1 : Int32) (g : gT) (L : lT) (hk12 : ∀ v : Int32 × gT × lT, FW wA_fX12_asks wB_fX12_asks g0 (v.2.1) → Kp wA_fX12_asks wB_fX12_asks g0 (k12 v)) (h_g : FW wA_fX12_asks wB_fX12_asks g0 g) : Kp wA_fX12_asks wB_fX12_asks g0 (fX12_asks_p88 fu k12 v1 g L) := by
  unfold fX12_asks_p88
  exact hk12 _ h_g
theorem w_fX12_asks_p41 (g0 : gT) (fu : Nat) (k12 : Int32 × gT × lT → Option ((Unit) × zS)) (v1 : Int32) (g : gT) (L : lT) (hk12 : ∀ v : Int32 × gT × lT, FW wA_fX12_asks wB_fX12_asks g0 (v.2.1) → Kp wA_fX12_asks wB_fX12_asks g0 (k12 v)) (h_g : FW wA_fX12_asks wB_fX12_asks g0 g) : Kp wA_fX12_asks wB_fX12_asks g0 (fX12_asks_p41 fu k12 v1 g L) := by
  unfold fX12_asks_p41
  refine kp_ck ?_
  refine kp_cb (w_fX12_within _ _ _ _ _ _ _ FW.refl) rfl rfl h_g (fun x4 g5 L6 h_g5 => ?_)
  refine kp_ite ?_ ?_
  ·
    exact w_fX12_asks_p88 _ _ _ _ _ _ hk12 h_g5
  ·
    refine kp_ite ?_ ?_
    ·
      exact w_fX12_asks_p88 _ _ _ _ _ _ hk12 h_g5
    ·
      refine kp_ck ?_
      refine kp_stB (by decide) h_g5 (fun g10 h_g10 => ?_)
      refine kp_stF (by decide) h_g10 (fun g11 h_g11 => ?_)
      exact w_fX12_asks_p88 _ _ _ _ _ _ hk12 h_g11
theorem w_fX12_asks_s12 (g0 : gT) (fu : Nat) (k12 : Int32 × gT × lT → Option ((Unit) × zS)) (v1 : Int32) (g : gT) (L : lT) (hk12 : ∀ v : Int32 × gT × lT, FW wA_fX12_asks wB_fX12_asks g0 (v.2.1) → Kp wA_fX12_asks wB_fX12_asks g0 (k12 v)) (h_g : FW wA_fX12_asks wB_fX12_asks g0 g) : Kp wA_fX12_asks wB_fX12_asks g0 (fX12_asks_s12 fu k12 v1 g L) := by
  unfold fX12_asks_s12
  refine kp_ite ?_ ?_
  ·
    exact kp_some h_g
  ·
    refine kp_ck ?_
    refine kp_ite ?_ ?_
    ·
      refine kp_stF (by decide) h_g (fun g13 h_g13 => ?_)
      exact w_fX12_asks_p41 _ _ _ _ _ _ hk12 h_g13
    ·
      exact w_fX12_asks_p41 _ _ _ _ _ _ hk12 h_g
theorem w_fX12_asks_l12 (g0 : gT) (fu : Nat) (v1 : Int32) (g : gT) (L : lT) (h_g : FW wA_fX12_asks wB_fX12_asks g0 g) : Kp wA_fX12_asks wB_fX12_asks g0 (fX12_asks_l12 fu v1 g L) := by
  unfold fX12_asks_l12
  exact kp_loop (fun v => v.2.1) (fun k_ hk_ v hv_ => w_fX12_asks_s12 _ _ _ _ _ _ hk_ hv_) h_g
theorem w_fX12_asks (g0 : gT) (fu : Nat) (g : gT) (L : lT) (h_g : FW wA_fX12_asks wB_fX12_asks g0 g) : Kp wA_fX12_asks wB_fX12_asks g0 (fX12_asks fu g L) := by
  unfold fX12_asks
  refine kp_stF (by decide) h_g (fun g1 h_g1 => ?_)
  refine kp_stF (by decide) h_g1 (fun g2 h_g2 => ?_)
  exact w_fX12_asks_l12 _ _ _ _ _ h_g2
abbrev wA_fX12_tens : List (Nat × Nat) := []
abbrev wB_fX12_tens : List Nat := []
theorem w_fX12_tens_s4 (g0 : gT) (fu : Nat) (k4 : Int64 × Int32 × gT × lT → Option ((Int64) × zS)) (v1 : Int64) (v3 : Int32) (g : gT) (L : lT) (hk4 : ∀ v : Int64 × Int32 × gT × lT, FW wA_fX12_tens wB_fX12_tens g0 (v.2.2.1) → Kp wA_fX12_tens wB_fX12_tens g0 (k4 v)) (h_g : FW wA_fX12_tens wB_fX12_tens g0 g) : Kp wA_fX12_tens wB_fX12_tens g0 (fX12_tens_s4 fu k4 v1 v3 g L) := by
  unfold fX12_tens_s4
  refine kp_ite ?_ ?_
  ·
    exact kp_some h_g
  ·
    refine kp_ltl (fun y2 => ?_)
    exact hk4 _ h_g
theorem w_fX12_tens_l4 (g0 : gT) (fu : Nat) (v1 : Int64) (v3 : Int32) (g : gT) (L : lT) (h_g : FW wA_fX12_tens wB_fX12_tens g0 g) : Kp wA_fX12_tens wB_fX12_tens g0 (fX12_tens_l4 fu v1 v3 g L) := by
  unfold fX12_tens_l4
  exact kp_loop (fun v => v.2.2.1) (fun k_ hk_ v hv_ => w_fX12_tens_s4 _ _ _ _ _ _ _ hk_ hv_) h_g
theorem w_fX12_tens (g0 : gT) (fu : Nat) (g : gT) (L : lT) (h_g : FW wA_fX12_tens wB_fX12_tens g0 g) : Kp wA_fX12_tens wB_fX12_tens g0 (fX12_tens fu g L) := by
  unfold fX12_tens
  exact w_fX12_tens_l4 _ _ _ _ _ _ h_g
abbrev wA_fX12_weighs : List (Nat × Nat) := [(0, 60)]
abbrev wB_fX12_weighs : List Nat := [29, 30, 31, 32, 33, 34, 35]
theorem w_fX12_weighs_p169 (g0 : gT) (fu : Nat) (k5 : Int64 × Int32 × gT × lT → Option ((Int64) × zS)) (v1 : Int32) (v2 : Int32) (v5 : Int32) (t0 : Int64) (t1 : Int64) (g : gT) (L : lT) (hk5 : ∀ v : Int64 × Int32 × gT × lT, FW wA_fX12_weighs wB_fX12_weighs g0 (v.2.2.1) → Kp wA_fX12_weighs wB_fX12_weighs g0 (k5 v)) (h_g : FW wA_fX12_weighs wB_fX12_weighs g0 g) : Kp wA_fX12_weighs wB_fX12_weighs g0 (fX12_weighs_p169 fu k5 v1 v2 v5 t0 t1 g L) := by
  unfold fX12_weighs_p169
  refine kp_ltl (fun y9 => ?_)
  exact hk5 _ h_g
theorem w_fX12_weighs_p122 (g0 : gT) (fu : Nat) (k5 : Int64 × Int32 × gT × lT → Option ((Int64) × zS)) (k30 : Int64 × Int32 × gT × lT → Option ((Int64) × zS)) (v1 : Int32) (v2 : Int32) (v3 : Int64) (v5 : Int32) (v6 : Int64) (v8 : Int32) (t0 : Int32) (t1 : Int32) (g : gT) (L : lT) (hk5 : ∀ v : Int64 × Int32 × gT × lT, FW wA_fX12_weighs wB_fX12_weighs g0 (v.2.2.1) → Kp wA_fX12_weighs wB_fX12_weighs g0 (k5 v)) (hk30 : ∀ v : Int64 × Int32 × gT × lT, FW wA_fX12_weighs wB_fX12_weighs g0 (v.2.2.1) → Kp wA_fX12_weighs wB_fX12_weighs g0 (k30 v)) (h_g : FW wA_fX12_weighs wB_fX12_weighs g0 g) : Kp wA_fX12_weighs wB_fX12_weighs g0 (fX12_weighs_p122 fu k5 k30 v1 v2 v3 v5 v6 v8 t0 t1 g L) := by
  unfold fX12_weighs_p122
  refine kp_stF (by decide) h_g (fun g21 h_g21 => ?_)
  exact hk30 _ h_g21
theorem w_fX12_weighs_p96 (g0 : gT) (fu : Nat) (k5 : Int64 × Int32 × gT × lT → Option ((Int64) × zS)) (k30 : Int64 × Int32 × gT × lT → Option ((Int64) × zS)) (v1 : Int32) (v2 : Int32) (v3 : Int64) (v5 : Int32) (v8 : Int32) (v9 : Int32) (t0 : Int64) (t1 : Int64) (g : gT) (L : lT) (hk5 : ∀ v : Int64 × Int32 × gT × lT, FW wA_fX12_weighs wB_fX12_weighs g0 (v.2.2.1) → Kp wA_fX12_weighs wB_fX12_weighs g0 (k5 v)) (hk30 : ∀ v : Int64 × Int32 × gT × lT, FW wA_fX12_weighs wB_fX12_weighs g0 (v.2.2.1) → Kp wA_fX12_weighs wB_fX12_weighs g0 (k30 v)) (h_g : FW wA_fX12_weighs wB_fX12_weighs g0 g) : Kp wA_fX12_weighs wB_fX12_weighs g0 (fX12_weighs_p96 fu k5 k30 v1 v2 v3 v5 v8 v9 t0 t1 g L) := by
  unfold fX12_weighs_p96
  refine kp_ltl (fun y20 => ?_)
  refine kp_ite ?_ ?_
  ·
    refine kp_ck ?_
    exact w_fX12_weighs_p122 _ _ _ _ _ _ _ _ _ _ _ _ _ _ hk5 hk30 h_g
  ·
    exact w_fX12_weighs_p122 _ _ _ _ _ _ _ _ _ _ _ _ _ _ hk5 hk30 h_g
theorem w_fX12_weighs_p55 (g0 : gT) (fu : Nat) (k5 : Int64 × Int32 × gT × lT → Option ((Int64) × zS)) (k30 : Int64 × Int32 × gT × lT → Option ((Int64) × zS)) (v1 : Int32) (v2 : Int32) (v3 : Int64) (v5 : Int32) (v6 : Int64) (v8 : Int32) (t0 : Int32) (g : gT) (L : lT) (hk5 : ∀ v : Int64 × Int32 × gT × lT, FW wA_fX12_weighs wB_fX12_weighs g0 (v.2.2.1) → Kp wA_fX12_weighs wB_fX12_weighs g0 (k5 v)) (hk30 : ∀ v : Int64 × Int32 × gT × lT, FW wA_fX12_weighs wB_fX12_weighs g0 (v.2.2.1) → Kp wA_fX12_weighs wB_fX12_weighs g0 (k30 v)) (h_g : FW wA_fX12_weighs wB_fX12_weighs g0 g) : Kp wA_fX12_weighs wB_fX12_weighs g0 (fX12_weighs_p55 fu k5 k30 v1 v2 v3 v5 v6 v8 t0 g L) := by
  unfold fX12_weighs_p55
  refine kp_ite ?_ ?_
  ·
    refine kp_ck ?_
    refine kp_ck ?_
    exact w_fX12_weighs_p96 _ _ _ _ _ _ _ _ _ _ _ _ _ _ hk5 hk30 h_g
  ·
    refine kp_ck ?_
    refine kp_ck ?_
    exact w_fX12_weighs_p96 _ _ _ _ _ _ _ _ _ _ _ _ _ _ hk5 hk30 h_g
theorem w_fX12_weighs_s30 (g0 : gT) (fu : Nat) (k5 : Int64 × Int32 × gT × lT → Option ((Int64) × zS)) (v1 : Int32) (v2 : Int32) (v3 : Int64) (v5 : Int32) (k30 : Int64 × Int32 × gT × lT → Option ((Int64) × zS)) (v6 : Int64) (v8 : Int32) (g : gT) (L : lT) (hk5 : ∀ v : Int64 × Int32 × gT × lT, FW wA_fX12_weighs wB_fX12_weighs g0 (v.2.2.1) → Kp wA_fX12_weighs wB_fX12_weighs g0 (k5 v)) (hk30 : ∀ v : Int64 × Int32 × gT × lT, FW wA_fX12_weighs wB_fX12_weighs g0 (v.2.2.1) → Kp wA_fX12_weighs wB_fX12_weighs g0 (k30 v)) (h_g : FW wA_fX12_weighs wB_fX12_weighs g0 g) : Kp wA_fX12_weighs wB_fX12_weighs g0 (fX12_weighs_s30 fu k5 v1 v2 v3 v5 k30 v6 v8 g L) := by
  unfold fX12_weighs_s30
  refine kp_ite ?_ ?_
  ·
    refine kp_cb (w_fX12_works0 _ _ _ _ FW.refl) rfl rfl h_g (fun x5 g6 L7 h_g6 => ?_)
    refine kp_ite ?_ ?_
    ·
      refine kp_cb (w_fX12_late _ _ _ _ _ FW.refl) rfl rfl h_g6 (fun x16 g17 L18 h_g17 => ?_)
      exact w_fX12_weighs_p169 _ _ _ _ _ _ _ _ _ _ hk5 h_g17
    ·
      refine kp_cb (w_fX12_late _ _ _ _ _ FW.refl) rfl rfl h_g6 (fun x11 g12 L13 h_g12 => ?_)
      refine kp_ite ?_ ?_
      ·
        exact w_fX12_weighs_p169 _ _ _ _ _ _ _ _ _ _ hk5 h_g12
      ·
        exact w_fX12_weighs_p169 _ _ _ _ _ _ _ _ _ _ hk5 h_g12
  ·
    refine kp_ite ?_ ?_
    ·
      exact w_fX12_weighs_p55 _ _ _ _ _ _ _ _ _ _ _ _ _ hk5 hk30 h_g
    ·
      exact w_fX12_weighs_p55 _ _ _ _ _ _ _ _ _ _ _ _ _ hk5 hk30 h_g
theorem w_fX12_weighs_l30 (g0 : gT) (fu : Nat) (k5 : Int64 × Int32 × gT × lT → Option ((Int64) × zS)) (v1 : Int32) (v2 : Int32) (v3 : Int64) (v5 : Int32) (v6 : Int64) (v8 : Int32) (g : gT) (L : lT) (hk5 : ∀ v : Int64 × Int32 × gT × lT, FW wA_fX12_weighs wB_fX12_weighs g0 (v.2.2.1) → Kp wA_fX12_weighs wB_fX12_weighs g0 (k5 v)) (h_g : FW wA_fX12_weighs wB_fX12_weighs g0 g) : Kp wA_fX12_weighs wB_fX12_weighs g0 (fX12_weighs_l30 fu k5 v1 v2 v3 v5 v6 v8 g L) := by
  unfold fX12_weighs_l30
  exact kp_loop (fun v => v.2.2.1) (fun k_ hk_ v hv_ => w_fX12_weighs_s30 _ _ _ _ _ _ _ _ _ _ _ _ hk5 hk_ hv_) h_g
theorem w_fX12_weighs_s5 (g0 : gT) (fu : Nat) (v1 : Int32) (v2 : Int32) (k5 : Int64 × Int32 × gT × lT → Option ((Int64) × zS)) (v3 : Int64) (v5 : Int32) (g : gT) (L : lT) (hk5 : ∀ v : Int64 × Int32 × gT × lT, FW wA_fX12_weighs wB_fX12_weighs g0 (v.2.2.1) → Kp wA_fX12_weighs wB_fX12_weighs g0 (k5 v)) (h_g : FW wA_fX12_weighs wB_fX12_weighs g0 g) : Kp wA_fX12_weighs wB_fX12_weighs g0 (fX12_weighs_s5 fu v1 v2 k5 v3 v5 g L) := by
  unfold fX12_weighs_s5
  refine kp_ite ?_ ?_
  ·
    refine kp_stF (by decide) h_g (fun g2 h_g2 => ?_)
    exact kp_some h_g2
  ·
    refine kp_stF (by decide) h_g (fun g3 h_g3 => ?_)
    exact w_fX12_weighs_l30 _ _ _ _ _ _ _ _ _ _ _ hk5 h_g3
theorem w_fX12_weighs_l5 (g0 : gT) (fu : Nat) (v1 : Int32) (v2 : Int32) (v3 : Int64) (v5 : Int32) (g : gT) (L : lT) (h_g : FW wA_fX12_weighs wB_fX12_weighs g0 g) : Kp wA_fX12_weighs wB_fX12_weighs g0 (fX12_weighs_l5 fu v1 v2 v3 v5 g L) := by
  unfold fX12_weighs_l5
  exact kp_loop (fun v => v.2.2.1) (fun k_ hk_ v hv_ => w_fX12_weighs_s5 _ _ _ _ _ _ _ _ _ hk_ hv_) h_g
theorem w_fX12_weighs (g0 : gT) (fu : Nat) (p1 : Int32) (p2 : Int32) (g : gT) (L : lT) (h_g : FW wA_fX12_weighs wB_fX12_weighs g0 g) : Kp wA_fX12_weighs wB_fX12_weighs g0 (fX12_weighs fu p1 p2 g L) := by
  unfold fX12_weighs
  exact w_fX12_weighs_l5 _ _ _ _ _ _ _ _ h_g
abbrev wA_fX12_portion : List (Nat × Nat) := []
abbrev wB_fX12_portion : List Nat := []
theorem w_fX12_portion_p41 (g0 : gT) (fu : Nat) (v5 : Int64) (t0 : Int64) (g : gT) (L : lT) (h_g : FW wA_fX12_portion wB_fX12_portion g0 g) : Kp wA_fX12_portion wB_fX12_portion g0 (fX12_portion_p41 fu v5 t0 g L) := by
  unfold fX12_portion_p41
  refine kp_cnzL ?_
  exact kp_some h_g
theorem w_fX12_portion_s6 (g0 : gT) (fu : Nat) (v0 : Int64) (v2 : Int64) (v4 : Int32) (k6 : Int64 × Int64 × gT × lT → Option ((Int64) × zS)) (v5 : Int64) (v7 : Int64) (g : gT) (L : lT) (hk6 : ∀ v : Int64 × Int64 × gT × lT, FW wA_fX12_portion wB_fX12_portion g0 (v.2.2.1) → Kp wA_fX12_portion wB_fX12_portion g0 (k6 v)) (h_g : FW wA_fX12_portion wB_fX12_portion g0 g) : Kp wA_fX12_portion wB_fX12_portion g0 (fX12_portion_s6 fu v0 v2 v4 k6 v5 v7 g L) := by
  unfold fX12_portion_s6
  refine kp_ite ?_ ?_
  ·
    refine kp_ite ?_ ?_
    ·
      exact w_fX12_portion_p41 _ _ _ _ _ _ h_g
    ·
      exact w_fX12_portion_p41 _ _ _ _ _ _ h_g
  ·
    refine kp_cnzL ?_
    refine kp_ltl (fun y3 => ?_)
    exact hk6 _ h_g
theorem w_fX12_portion_l6 (g0 : gT) (fu : Nat) (v0 : Int64) (v2 : Int64) (v4 : Int32) (v5 : Int64) (v7 : Int64) (g : gT) (L : lT) (h_g : FW wA_fX12_portion wB_fX12_portion g0 g) : Kp wA_fX12_portion wB_fX12_portion g0 (fX12_portion_l6 fu v0 v2 v4 v5 v7 g L) := by
  unfold fX12_portion_l6
  exact kp_loop (fun v => v.2.2.1) (fun k_ hk_ v hv_ => w_fX12_portion_s6 _ _ _ _ _ _ _ _ _ _ hk_ hv_) h_g
theorem w_fX12_portion (g0 : gT) (fu : Nat) (p1 : Int64) (p2 : Int64) (p3 : Int32) (g : gT) (L : lT) (h_g : FW wA_fX12_portion wB_fX12_portion g0 g) : Kp wA_fX12_portion wB_fX12_portion g0 (fX12_portion fu p1 p2 p3 g L) := by
  unfold fX12_portion
  exact w_fX12_portion_l6 _ _ _ _ _ _ _ _ _ h_g
abbrev wA_fX12_chance : List (Nat × Nat) := [(0, 0), (0, 60), (0, 70), (0, 71)]
abbrev wB_fX12_chance : List Nat := [29, 30, 31, 32, 33, 34, 35, 41]
theorem w_fX12_chance_p38 (g0 : gT) (fu : Nat) (g : gT) (L : lT) (h_g : FW wA_fX12_chance wB_fX12_chance g0 g) : Kp wA_fX12_chance wB_fX12_chance g0 (fX12_chance_p38 fu g L) := by
  unfold fX12_chance_p38
  exact kp_some h_g
theorem w_fX12_chance (g0 : gT) (fu : Nat) (p1 : Int32) (p2 : Int32) (p3 : Int32) (g : gT) (L : lT) (h_g : FW wA_fX12_chance wB_fX12_chance g0 g) : Kp wA_fX12_chance wB_fX12_chance g0 (fX12_chance fu p1 p2 p3 g L) := by
  unfold fX12_chance
  refine kp_stF (by decide) h_g (fun g1 h_g1 => ?_)
  refine kp_cb (w_fX12_isLesson _ _ _ _ _ FW.refl) rfl rfl h_g1 (fun x2 g3 L4 h_g3 => ?_)
  refine kp_ite ?_ ?_
  ·
    exact w_fX12_chance_p38 _ _ _ _ h_g3
  ·
    refine kp_cb (w_fX12_isWhat _ _ _ _ _ _ FW.refl) rfl rfl h_g3 (fun x7 g8 L9 h_g8 => ?_)
    refine kp_ite ?_ ?_
    ·
      exact w_fX12_chance_p38 _ _ _ _ h_g8
    ·
      refine kp_cb (w_fX12_within _ _ _ _ _ _ _ FW.refl) rfl rfl h_g8 (fun x12 g13 L14 h_g13 => ?_)
      refine kp_cb (w_fX12_right _ _ _ _ _ _ FW.refl) rfl rfl h_g13 (fun x16 g17 L18 h_g17 => ?_)
      refine kp_ite ?_ ?_
      ·
        exact w_fX12_chance_p38 _ _ _ _ h_g17
      ·
        refine kp_cb (w_fX12_asks _ _ _ _ FW.refl) rfl rfl h_g17 (fun x21 g22 L23 h_g22 => ?_)
        refine kp_cb (w_fX12_weighs _ _ _ _ _ _ FW.refl) rfl rfl h_g22 (fun x25 g26 L27 h_g26 => ?_)
        refine kp_cb (w_fX12_tens _ _ _ _ FW.refl) rfl rfl h_g26 (fun x29 g30 L31 h_g30 => ?_)
        refine kp_cb (w_fX12_portion _ _ _ _ _ _ _ FW.refl) rfl rfl h_g30 (fun x33 g34 L35 h_g34 => ?_)
        exact kp_some h_g34
abbrev wA_fX12_mean : List (Nat × Nat) := [(0, 0), (0, 60), (0, 70), (0, 71)]
abbrev wB_fX12_mean : List Nat := [29, 30, 31, 32, 33, 34, 35, 41]
theorem w_fX12_mean_p22 (g0 : gT) (fu : Nat) (g : gT) (L : lT) (h_g : FW wA_fX12_mean wB_fX12_mean g0 g) : Kp wA_fX12_mean wB_fX12_mean g0 (fX12_mean_p22 fu g L) := by
  unfold fX12_mean_p22
  exact kp_some h_g
theorem w_fX12_mean (g0 : gT) (fu : Nat) (p1 : Int32) (p2 : Int32) (g : gT) (L : lT) (h_g : FW wA_fX12_mean wB_fX12_mean g0 g) : Kp wA_fX12_mean wB_fX12_mean g0 (fX12_mean fu p1 p2 g L) := by
  unfold fX12_mean
  refine kp_stF (by decide) h_g (fun g1 h_g1 => ?_)
  refine kp_cb (w_fX12_isLesson _ _ _ _ _ FW.refl) rfl rfl h_g1 (fun x2 g3 L4 h_g3 => ?_)
  refine kp_ite ?_ ?_
  ·
    exact w_fX12_mean_p22 _ _ _ _ h_g3
  ·
    refine kp_cb (w_fX12_isWhat _ _ _ _ _ _ FW.refl) rfl rfl h_g3 (fun x7 g8 L9 h_g8 => ?_)
    refine kp_ite ?_ ?_
    ·
      exact w_fX12_mean_p22 _ _ _ _ h_g8
    ·
      refine kp_cb (w_fX12_asks _ _ _ _ FW.refl) rfl rfl h_g8 (fun x12 g13 L14 h_g13 => ?_)
      refine kp_cb (w_fX12_weighs _ _ _ _ _ _ FW.refl) rfl rfl h_g13 (fun x16 g17 L18 h_g17 => ?_)
      refine kp_cb (w_fX12_tens _ _ _ _ FW.refl) rfl rfl h_g17 (fun x20 g21 L22 h_g21 => ?_)
      refine kp_cb (w_fX12_portion _ _ _ _ _ _ _ FW.refl) rfl rfl h_g21 (fun x24 g25 L26 h_g25 => ?_)
      exact kp_some h_g25
abbrev wA_fX12_swaps : List (Nat × Nat) := []
abbrev wB_fX12_swaps : List Nat := [12]
theorem w_fX12_swaps (g0 : gT) (fu : Nat) (p1 : Int32) (p2 : Int32) (g : gT) (L : lT) (h_g : FW wA_fX12_swaps wB_fX12_swaps g0 g) : Kp wA_fX12_swaps wB_fX12_swaps g0 (fX12_swaps fu p1 p2 g L) := by
  unfold fX12_swaps
  refine kp_ck ?_
  refine kp_lti (fun x1 => ?_)
  refine kp_ck ?_
  refine kp_ck ?_
  refine kp_stB (by decide) h_g (fun g2 h_g2 => ?_)
  refine kp_ck ?_
  refine kp_stB (by decide) h_g2 (fun g3 h_g3 => ?_)
  exact kp_some h_g3
abbrev wA_fX12_swap : List (Nat × Nat) := [(0, 0)]
abbrev wB_fX12_swap : List Nat := [12, 29, 30, 31, 32, 33, 34, 35]
theorem w_fX12_swap_p119 (g0 : gT) (fu : Nat) (t0 : Int32) (g : gT) (L : lT) (h_g : FW wA_fX12_swap wB_fX12_swap g0 g) : Kp wA_fX12_swap wB_fX12_swap g0 (fX12_swap_p119 fu t0 g L) := by
  unfold fX12_swap_p119
  exact kp_some h_g
theorem w_fX12_swap_p114 (g0 : gT) (fu : Nat) (v2 : Int32) (g : gT) (L : lT) (h_g : FW wA_fX12_swap wB_fX12_swap g0 g) : Kp wA_fX12_swap wB_fX12_swap g0 (fX12_swap_p114 fu v2 g L) := by
  unfold fX12_swap_p114
  exact w_fX12_swap_p119 _ _ _ _ _ h_g
theorem w_fX12_swap_p93 (g0 : gT) (fu : Nat) (k26 : Int32 × Int32 × Int32 × gT × lT → Option ((Int32) × zS)) (k41 : Int32 × Int32 × Int32 × gT × lT → Option ((Int32) × zS)) (v1 : Int32) (v2 : Int32) (v3 : Int32) (v4 : Int32) (v5 : Int32) (g : gT) (L : lT) (hk26 : ∀ v : Int32 × Int32 × Int32 × gT × lT, FW wA_fX12_swap wB_fX12_swap g0 (v.2.2.2.1) → Kp wA_fX12_swap wB_fX12_swap g0 (k26 v)) (hk41 : ∀ v : Int32 × Int32 × Int32 × gT × lT, FW wA_fX12_swap wB_fX12_swap g0 (v.2.2.2.1) → Kp wA_fX12_swap wB_fX12_swap g0 (k41 v)) (h_g : FW wA_fX12_swap wB_fX12_swap g0 g) : Kp wA_fX12_swap wB_fX12_swap g0 (fX12_swap_p93 fu k26 k41 v1 v2 v3 v4 v5 g L) := by
  unfold fX12_swap_p93
  exact hk41 _ h_g
theorem w_fX12_swap_s41 (g0 : gT) (fu : Nat) (k26 : Int32 × Int32 × Int32 × gT × lT → Option ((Int32) × zS)) (v1 : Int32) (v4 : Int32) (k41 : Int32 × Int32 × Int32 × gT × lT → Option ((Int32) × zS)) (v2 : Int32) (v3 : Int32) (v5 : Int32) (g : gT) (L : lT) (hk26 : ∀ v : Int32 × Int32 × Int32 × gT × lT, FW wA_fX12_swap wB_fX12_swap g0 (v.2.2.2.1) → Kp wA_fX12_swap wB_fX12_swap g0 (k26 v)) (hk41 : ∀ v : Int32 × Int32 × Int32 × gT × lT, FW wA_fX12_swap wB_fX12_swap g0 (v.2.2.2.1) → Kp wA_fX12_swap wB_fX12_swap g0 (k41 v)) (h_g : FW wA_fX12_swap wB_fX12_swap g0 g) : Kp wA_fX12_swap wB_fX12_swap g0 (fX12_swap_s41 fu k26 v1 v4 k41 v2 v3 v5 g L) := by
  unfold fX12_swap_s41
  refine kp_ite ?_ ?_
  ·
    exact hk26 _ h_g
  ·
    refine kp_cb (w_fX12_swaps _ _ _ _ _ _ FW.refl) rfl rfl h_g (fun x16 g17 L18 h_g17 => ?_)
    refine kp_cb (w_fX12_lost _ _ _ _ FW.refl) rfl rfl h_g17 (fun x20 g21 L22 h_g21 => ?_)
    refine kp_cb (w_fX12_swaps _ _ _ _ _ _ FW.refl) rfl rfl h_g21 (fun x24 g25 L26 h_g25 => ?_)
    refine kp_ite ?_ ?_
    ·
      refine kp_lti (fun x29 => ?_)
      exact w_fX12_swap_p93 _ _ _ _ _ _ _ _ _ _ _ hk26 hk41 h_g25
    ·
      exact w_fX12_swap_p93 _ _ _ _ _ _ _ _ _ _ _ hk26 hk41 h_g25
theorem w_fX12_swap_l41 (g0 : gT) (fu : Nat) (k26 : Int32 × Int32 × Int32 × gT × lT → Option ((Int32) × zS)) (v1 : Int32) (v4 : Int32) (v2 : Int32) (v3 : Int32) (v5 : Int32) (g : gT) (L : lT) (hk26 : ∀ v : Int32 × Int32 × Int32 × gT × lT, FW wA_fX12_swap wB_fX12_swap g0 (v.2.2.2.1) → Kp wA_fX12_swap wB_fX12_swap g0 (k26 v)) (h_g : FW wA_fX12_swap wB_fX12_swap g0 g) : Kp wA_fX12_swap wB_fX12_swap g0 (fX12_swap_l41 fu k26 v1 v4 v2 v3 v5 g L) := by
  unfold fX12_swap_l41
  exact kp_loop (fun v => v.2.2.2.1) (fun k_ hk_ v hv_ => w_fX12_swap_s41 _ _ _ _ _ _ _ _ _ _ _ hk26 hk_ hv_) h_g
theorem w_fX12_swap_s26 (g0 : gT) (fu : Nat) (v1 : Int32) (k26 : Int32 × Int32 × Int32 × gT × lT → Option ((Int32) × zS)) (v2 : Int32) (v3 : Int32) (v4 : Int32) (g : gT) (L : lT) (hk26 : ∀ v : Int32 × Int32 × Int32 × gT × lT, FW wA_fX12_swap wB_fX12_swap g0 (v.2.2.2.1) → Kp wA_fX12_swap wB_fX12_swap g0 (k26 v)) (h_g : FW wA_fX12_swap wB_fX12_swap g0 g) : Kp wA_fX12_swap wB_fX12_swap g0 (fX12_swap_s26 fu v1 k26 v2 v3 v4 g L) := by
  unfold fX12_swap_s26
  refine kp_ite ?_ ?_
  ·
    refine kp_ite ?_ ?_
    ·
      exact w_fX12_swap_p114 _ _ _ _ _ h_g
    ·
      refine kp_ite ?_ ?_
      ·
        exact w_fX12_swap_p114 _ _ _ _ _ h_g
      ·
        exact w_fX12_swap_p119 _ _ _ _ _ h_g
  ·
    refine kp_lti (fun x14 => ?_)
    exact w_fX12_swap_l41 _ _ _ _ _ _ _ _ _ _ hk26 h_g
theorem w_fX12_swap_l26 (g0 : gT) (fu : Nat) (v1 : Int32) (v2 : Int32) (v3 : Int32) (v4 : Int32) (g : gT) (L : lT) (h_g : FW wA_fX12_swap wB_fX12_swap g0 g) : Kp wA_fX12_swap wB_fX12_swap g0 (fX12_swap_l26 fu v1 v2 v3 v4 g L) := by
  unfold fX12_swap_l26
  exact kp_loop (fun v => v.2.2.2.1) (fun k_ hk_ v hv_ => w_fX12_swap_s26 _ _ _ _ _ _ _ _ _ hk_ hv_) h_g
theorem w_fX12_swap (g0 : gT) (fu : Nat) (p1 : Int32) (g : gT) (L : lT) (h_g : FW wA_fX12_swap wB_fX12_swap g0 g) : Kp wA_fX12_swap wB_fX12_swap g0 (fX12_swap fu p1 g L) := by
  unfold fX12_swap
  refine kp_stF (by decide) h_g (fun g1 h_g1 => ?_)
  refine kp_cb (w_fX12_isWhat _ _ _ _ _ _ FW.refl) rfl rfl h_g1 (fun x2 g3 L4 h_g3 => ?_)
  refine kp_ite ?_ ?_
  ·
    exact kp_some h_g3
  ·
    refine kp_cb (w_fX12_lost _ _ _ _ FW.refl) rfl rfl h_g3 (fun x7 g8 L9 h_g8 => ?_)
    exact w_fX12_swap_l26 _ _ _ _ _ _ _ _ h_g8
abbrev wA_fX12_bestOf : List (Nat × Nat) := []
abbrev wB_fX12_bestOf : List Nat := [12, 29, 30, 31, 32, 33, 34, 35]
theorem w_fX12_bestOf_p86 (g0 : gT) (fu : Nat) (t0 : Int32) (g : gT) (L : lT) (h_g : FW wA_fX12_bestOf wB_fX12_bestOf g0 g) : Kp wA_fX12_bestOf wB_fX12_bestOf g0 (fX12_bestOf_p86 fu t0 g L) := by
  unfold fX12_bestOf_p86
  exact kp_some h_g
theorem w_fX12_bestOf_p61 (g0 : gT) (fu : Nat) (k17 : Int32 × Int32 × Int32 × gT × lT → Option ((Int32) × zS)) (v1 : Int32) (v2 : Int32) (v3 : Int32) (v4 : Int32) (v5 : Int32) (v6 : Int32) (v7 : Int32) (g : gT) (L : lT) (hk17 : ∀ v : Int32 × Int32 × Int32 × gT × lT, FW wA_fX12_bestOf wB_fX12_bestOf g0 (v.2.2.2.1) → Kp wA_fX12_bestOf wB_fX12_bestOf g0 (k17 v)) (h_g : FW wA_fX12_bestOf wB_fX12_bestOf g0 g) : Kp wA_fX12_bestOf wB_fX12_bestOf g0 (fX12_bestOf_p61 fu k17 v1 v2 v3 v4 v5 v6 v7 g L) := by
  unfold fX12_bestOf_p61
  exact hk17 _ h_g
theorem w_fX12_bestOf_p53 (g0 : gT) (fu : Nat) (k17 : Int32 × Int32 × Int32 × gT × lT → Option ((Int32) × zS)) (v1 : Int32) (v2 : Int32) (v3 : Int32) (v4 : Int32) (v7 : Int32) (v8 : Int32) (g : gT) (L : lT) (hk17 : ∀ v : Int32 × Int32 × Int32 × gT × lT, FW wA_fX12_bestOf wB_fX12_bestOf g0 (v.2.2.2.1) → Kp wA_fX12_bestOf wB_fX12_bestOf g0 (k17 v)) (h_g : FW wA_fX12_bestOf wB_fX12_bestOf g0 g) : Kp wA_fX12_bestOf wB_fX12_bestOf g0 (fX12_bestOf_p53 fu k17 v1 v2 v3 v4 v7 v8 g L) := by
  unfold fX12_bestOf_p53
  exact w_fX12_bestOf_p61 _ _ _ _ _ _ _ _ _ _ _ _ hk17 h_g
theorem w_fX12_bestOf_s17 (g0 : gT) (fu : Nat) (v1 : Int32) (v2 : Int32) (v3 : Int32) (v4 : Int32) (k17 : Int32 × Int32 × Int32 × gT × lT → Option ((Int32) × zS)) (v5 : Int32) (v6 : Int32) (v7 : Int32) (g : gT) (L : lT) (hk17 : ∀ v : Int32 × Int32 × Int32 × gT × lT, FW wA_fX12_bestOf wB_fX12_bestOf g0 (v.2.2.2.1) → Kp wA_fX12_bestOf wB_fX12_bestOf g0 (k17 v)) (h_g : FW wA_fX12_bestOf wB_fX12_bestOf g0 g) : Kp wA_fX12_bestOf wB_fX12_bestOf g0 (fX12_bestOf_s17 fu v1 v2 v3 v4 k17 v5 v6 v7 g L) := by
  unfold fX12_bestOf_s17
  refine kp_ite ?_ ?_
  ·
    refine kp_ck ?_
    refine kp_stB (by decide) h_g (fun g3 h_g3 => ?_)
    refine kp_ite ?_ ?_
    ·
      exact w_fX12_bestOf_p86 _ _ _ _ _ h_g3
    ·
      exact w_fX12_bestOf_p86 _ _ _ _ _ h_g3
  ·
    refine kp_ck ?_
    refine kp_stB (by decide) h_g (fun g5 h_g5 => ?_)
    refine kp_cb (w_fX12_lost _ _ _ _ FW.refl) rfl rfl h_g5 (fun x6 g7 L8 h_g7 => ?_)
    refine kp_ite ?_ ?_
    ·
      exact w_fX12_bestOf_p53 _ _ _ _ _ _ _ _ _ _ _ hk17 h_g7
    ·
      refine kp_ite ?_ ?_
      ·
        exact w_fX12_bestOf_p53 _ _ _ _ _ _ _ _ _ _ _ hk17 h_g7
      ·
        exact w_fX12_bestOf_p61 _ _ _ _ _ _ _ _ _ _ _ _ hk17 h_g7
theorem w_fX12_bestOf_l17 (g0 : gT) (fu : Nat) (v1 : Int32) (v2 : Int32) (v3 : Int32) (v4 : Int32) (v5 : Int32) (v6 : Int32) (v7 : Int32) (g : gT) (L : lT) (h_g : FW wA_fX12_bestOf wB_fX12_bestOf g0 g) : Kp wA_fX12_bestOf wB_fX12_bestOf g0 (fX12_bestOf_l17 fu v1 v2 v3 v4 v5 v6 v7 g L) := by
  unfold fX12_bestOf_l17
  exact kp_loop (fun v => v.2.2.2.1) (fun k_ hk_ v hv_ => w_fX12_bestOf_s17 _ _ _ _ _ _ _ _ _ _ _ _ hk_ hv_) h_g
theorem w_fX12_bestOf (g0 : gT) (fu : Nat) (p1 : Int32) (p2 : Int32) (p3 : Int32) (g : gT) (L : lT) (h_g : FW wA_fX12_bestOf wB_fX12_bestOf g0 g) : Kp wA_fX12_bestOf wB_fX12_bestOf g0 (fX12_bestOf fu p1 p2 p3 g L) := by
  unfold fX12_bestOf
  refine kp_ck ?_
  refine kp_lti (fun x1 => ?_)
  exact w_fX12_bestOf_l17 _ _ _ _ _ _ _ _ _ _ _ h_g
abbrev wA_fX12_room : List (Nat × Nat) := [(0, 0)]
abbrev wB_fX12_room : List Nat := [12, 29, 30, 31, 32, 33, 34, 35]
theorem w_fX12_room_p37 (g0 : gT) (fu : Nat) (t0 : Int32) (g : gT) (L : lT) (h_g : FW wA_fX12_room wB_fX12_room g0 g) : Kp wA_fX12_room wB_fX12_room g0 (fX12_room_p37 fu t0 g L) := by
  unfold fX12_room_p37
  exact kp_some h_g
theorem w_fX12_room_p36 (g0 : gT) (fu : Nat) (g : gT) (L : lT) (h_g : FW wA_fX12_room wB_fX12_room g0 g) : Kp wA_fX12_room wB_fX12_room g0 (fX12_room_p36 fu g L) := by
  unfold fX12_room_p36
  exact w_fX12_room_p37 _ _ _ _ _ h_g
theorem w_fX12_room (g0 : gT) (fu : Nat) (p1 : Int32) (p2 : Int32) (g : gT) (L : lT) (h_g : FW wA_fX12_room wB_fX12_room g0 g) : Kp wA_fX12_room wB_fX12_room g0 (fX12_room fu p1 p2 g L) := by
  unfold fX12_room
  refine kp_stF (by decide) h_g (fun g1 h_g1 => ?_)
  refine kp_cb (w_fX12_isLesson _ _ _ _ _ FW.refl) rfl rfl h_g1 (fun x2 g3 L4 h_g3 => ?_)
  refine kp_ite ?_ ?_
  ·
    exact w_fX12_room_p36 _ _ _ _ h_g3
  ·
    refine kp_cb (w_fX12_isWhat _ _ _ _ _ _ FW.refl) rfl rfl h_g3 (fun x7 g8 L9 h_g8 => ?_)
    refine kp_ite ?_ ?_
    ·
      exact w_fX12_room_p36 _ _ _ _ h_g8
    ·
      refine kp_cb (w_fX12_bestOf _ _ _ _ _ _ _ FW.refl) rfl rfl h_g8 (fun x12 g13 L14 h_g13 => ?_)
      exact w_fX12_room_p37 _ _ _ _ _ h_g13
abbrev wA_fX12_limit : List (Nat × Nat) := [(0, 0)]
abbrev wB_fX12_limit : List Nat := [12, 29, 30, 31, 32, 33, 34, 35]
theorem w_fX12_limit_p37 (g0 : gT) (fu : Nat) (t0 : Int32) (g : gT) (L : lT) (h_g : FW wA_fX12_limit wB_fX12_limit g0 g) : Kp wA_fX12_limit wB_fX12_limit g0 (fX12_limit_p37 fu t0 g L) := by
  unfold fX12_limit_p37
  exact kp_some h_g
theorem w_fX12_limit_p36 (g0 : gT) (fu : Nat) (g : gT) (L : lT) (h_g : FW wA_fX12_limit wB_fX12_limit g0 g) : Kp wA_fX12_limit wB_fX12_limit g0 (fX12_limit_p36 fu g L) := by
  unfold fX12_limit_p36
  exact w_fX12_limit_p37 _ _ _ _ _ h_g
theorem w_fX12_limit (g0 : gT) (fu : Nat) (p1 : Int32) (p2 : Int32) (g : gT) (L : lT) (h_g : FW wA_fX12_limit wB_fX12_limit g0 g) : Kp wA_fX12_limit wB_fX12_limit g0 (fX12_limit fu p1 p2 g L) := by
  unfold fX12_limit
  refine kp_stF (by decide) h_g (fun g1 h_g1 => ?_)
  refine kp_cb (w_fX12_isLesson _ _ _ _ _ FW.refl) rfl rfl h_g1 (fun x2 g3 L4 h_g3 => ?_)
  refine kp_ite ?_ ?_
  ·
    exact w_fX12_limit_p36 _ _ _ _ h_g3
  ·
    refine kp_cb (w_fX12_isWhat _ _ _ _ _ _ FW.refl) rfl rfl h_g3 (fun x7 g8 L9 h_g8 => ?_)
    refine kp_ite ?_ ?_
    ·
      exact w_fX12_limit_p36 _ _ _ _ h_g8
    ·
      refine kp_cb (w_fX12_bestOf _ _ _ _ _ _ _ FW.refl) rfl rfl h_g8 (fun x12 g13 L14 h_g13 => ?_)
      exact w_fX12_limit_p37 _ _ _ _ _ h_g13
abbrev wA_fX12_last : List (Nat × Nat) := [(0, 0)]
abbrev wB_fX12_last : List Nat := [12, 29, 30, 31, 32, 33, 34, 35]
theorem w_fX12_last_p73 (g0 : gT) (fu : Nat) (k11 : Int32 × Int32 × Int32 × gT × lT → Option ((Int32) × zS)) (v1 : Int32) (v2 : Int32) (v3 : Int32) (g : gT) (L : lT) (hk11 : ∀ v : Int32 × Int32 × Int32 × gT × lT, FW wA_fX12_last wB_fX12_last g0 (v.2.2.2.1) → Kp wA_fX12_last wB_fX12_last g0 (k11 v)) (h_g : FW wA_fX12_last wB_fX12_last g0 g) : Kp wA_fX12_last wB_fX12_last g0 (fX12_last_p73 fu k11 v1 v2 v3 g L) := by
  unfold fX12_last_p73
  exact hk11 _ h_g
theorem w_fX12_last_p68 (g0 : gT) (fu : Nat) (k11 : Int32 × Int32 × Int32 × gT × lT → Option ((Int32) × zS)) (v3 : Int32) (v5 : Int32) (g : gT) (L : lT) (hk11 : ∀ v : Int32 × Int32 × Int32 × gT × lT, FW wA_fX12_last wB_fX12_last g0 (v.2.2.2.1) → Kp wA_fX12_last wB_fX12_last g0 (k11 v)) (h_g : FW wA_fX12_last wB_fX12_last g0 g) : Kp wA_fX12_last wB_fX12_last g0 (fX12_last_p68 fu k11 v3 v5 g L) := by
  unfold fX12_last_p68
  exact w_fX12_last_p73 _ _ _ _ _ _ _ _ hk11 h_g
theorem w_fX12_last_s11 (g0 : gT) (fu : Nat) (k11 : Int32 × Int32 × Int32 × gT × lT → Option ((Int32) × zS)) (v1 : Int32) (v2 : Int32) (v3 : Int32) (g : gT) (L : lT) (hk11 : ∀ v : Int32 × Int32 × Int32 × gT × lT, FW wA_fX12_last wB_fX12_last g0 (v.2.2.2.1) → Kp wA_fX12_last wB_fX12_last g0 (k11 v)) (h_g : FW wA_fX12_last wB_fX12_last g0 g) : Kp wA_fX12_last wB_fX12_last g0 (fX12_last_s11 fu k11 v1 v2 v3 g L) := by
  unfold fX12_last_s11
  refine kp_ite ?_ ?_
  ·
    exact kp_some h_g
  ·
    refine kp_ck ?_
    refine kp_lti (fun x3 => ?_)
    refine kp_ck ?_
    refine kp_stB (by decide) h_g (fun g4 h_g4 => ?_)
    refine kp_cb (w_fX12_lost _ _ _ _ FW.refl) rfl rfl h_g4 (fun x5 g6 L7 h_g6 => ?_)
    refine kp_ck ?_
    refine kp_stB (by decide) h_g6 (fun g9 h_g9 => ?_)
    refine kp_ite ?_ ?_
    ·
      exact w_fX12_last_p68 _ _ _ _ _ _ _ hk11 h_g9
    ·
      refine kp_ite ?_ ?_
      ·
        exact w_fX12_last_p68 _ _ _ _ _ _ _ hk11 h_g9
      ·
        exact w_fX12_last_p73 _ _ _ _ _ _ _ _ hk11 h_g9
theorem w_fX12_last_l11 (g0 : gT) (fu : Nat) (v1 : Int32) (v2 : Int32) (v3 : Int32) (g : gT) (L : lT) (h_g : FW wA_fX12_last wB_fX12_last g0 g) : Kp wA_fX12_last wB_fX12_last g0 (fX12_last_l11 fu v1 v2 v3 g L) := by
  unfold fX12_last_l11
  exact kp_loop (fun v => v.2.2.2.1) (fun k_ hk_ v hv_ => w_fX12_last_s11 _ _ _ _ _ _ _ _ hk_ hv_) h_g
theorem w_fX12_last (g0 : gT) (fu : Nat) (g : gT) (L : lT) (h_g : FW wA_fX12_last wB_fX12_last g0 g) : Kp wA_fX12_last wB_fX12_last g0 (fX12_last fu g L) := by
  unfold fX12_last
  refine kp_stF (by decide) h_g (fun g1 h_g1 => ?_)
  exact w_fX12_last_l11 _ _ _ _ _ _ _ h_g1
abbrev wA_fX12_lostBy : List (Nat × Nat) := [(0, 52)]
abbrev wB_fX12_lostBy : List Nat := [29, 30, 31, 32, 33, 34, 35]
theorem w_fX12_lostBy (g0 : gT) (fu : Nat) (p1 : Int32) (g : gT) (L : lT) (h_g : FW wA_fX12_lostBy wB_fX12_lostBy g0 g) : Kp wA_fX12_lostBy wB_fX12_lostBy g0 (fX12_lostBy fu p1 g L) := by
  unfold fX12_lostBy
  refine kp_lti (fun x1 => ?_)
  refine kp_stF (by decide) h_g (fun g2 h_g2 => ?_)
  refine kp_cb (w_fX12_lost _ _ _ _ FW.refl) rfl rfl h_g2 (fun x3 g4 L5 h_g4 => ?_)
  refine kp_stF (by decide) h_g4 (fun g7 h_g7 => ?_)
  exact kp_some h_g7
abbrev wA_fX12_compare : List (Nat × Nat) := [(0, 0), (0, 52)]
abbrev wB_fX12_compare : List Nat := [29, 30, 31, 32, 33, 34, 35]
theorem w_fX12_compare_p40 (g0 : gT) (fu : Nat) (t0 : Int32) (g : gT) (L : lT) (h_g : FW wA_fX12_compare wB_fX12_compare g0 g) : Kp wA_fX12_compare wB_fX12_compare g0 (fX12_compare_p40 fu t0 g L) := by
  unfold fX12_compare_p40
  exact kp_some h_g
theorem w_fX12_compare_p24 (g0 : gT) (fu : Nat) (v1 : Int32) (t0 : Int32) (g : gT) (L : lT) (h_g : FW wA_fX12_compare wB_fX12_compare g0 g) : Kp wA_fX12_compare wB_fX12_compare g0 (fX12_compare_p24 fu v1 t0 g L) := by
  unfold fX12_compare_p24
  refine kp_cb (w_fX12_right _ _ _ _ _ _ FW.refl) rfl rfl h_g (fun x2 g3 L4 h_g3 => ?_)
  refine kp_ite ?_ ?_
  ·
    exact w_fX12_compare_p40 _ _ _ _ _ h_g3
  ·
    refine kp_cb (w_fX12_lostBy _ _ _ _ _ FW.refl) rfl rfl h_g3 (fun x7 g8 L9 h_g8 => ?_)
    exact w_fX12_compare_p40 _ _ _ _ _ h_g8
theorem w_fX12_compare_p23 (g0 : gT) (fu : Nat) (v1 : Int32) (g : gT) (L : lT) (h_g : FW wA_fX12_compare wB_fX12_compare g0 g) : Kp wA_fX12_compare wB_fX12_compare g0 (fX12_compare_p23 fu v1 g L) := by
  unfold fX12_compare_p23
  exact w_fX12_compare_p24 _ _ _ _ _ _ h_g
theorem w_fX12_compare (g0 : gT) (fu : Nat) (p1 : Int32) (g : gT) (L : lT) (h_g : FW wA_fX12_compare wB_fX12_compare g0 g) : Kp wA_fX12_compare wB_fX12_compare g0 (fX12_compare fu p1 g L) := by
  unfold fX12_compare
  refine kp_stF (by decide) h_g (fun g1 h_g1 => ?_)
  refine kp_ite ?_ ?_
  ·
    exact w_fX12_compare_p23 _ _ _ _ _ h_g1
  ·
    refine kp_ite ?_ ?_
    ·
      exact w_fX12_compare_p23 _ _ _ _ _ h_g1
    ·
      exact w_fX12_compare_p24 _ _ _ _ _ _ h_g1
abbrev wA_fX12_best : List (Nat × Nat) := [(0, 0), (0, 52)]
abbrev wB_fX12_best : List Nat := [29, 30, 31, 32, 33, 34, 35]
theorem w_fX12_best_p32 (g0 : gT) (fu : Nat) (k9 : Int32 × Int32 × gT × lT → Option ((Int32) × zS)) (v1 : Int32) (v2 : Int32) (g : gT) (L : lT) (hk9 : ∀ v : Int32 × Int32 × gT × lT, FW wA_fX12_best wB_fX12_best g0 (v.2.2.1) → Kp wA_fX12_best wB_fX12_best g0 (k9 v)) (h_g : FW wA_fX12_best wB_fX12_best g0 g) : Kp wA_fX12_best wB_fX12_best g0 (fX12_best_p32 fu k9 v1 v2 g L) := by
  unfold fX12_best_p32
  exact hk9 _ h_g
theorem w_fX12_best_s9 (g0 : gT) (fu : Nat) (k9 : Int32 × Int32 × gT × lT → Option ((Int32) × zS)) (v1 : Int32) (v2 : Int32) (g : gT) (L : lT) (hk9 : ∀ v : Int32 × Int32 × gT × lT, FW wA_fX12_best wB_fX12_best g0 (v.2.2.1) → Kp wA_fX12_best wB_fX12_best g0 (k9 v)) (h_g : FW wA_fX12_best wB_fX12_best g0 g) : Kp wA_fX12_best wB_fX12_best g0 (fX12_best_s9 fu k9 v1 v2 g L) := by
  unfold fX12_best_s9
  refine kp_ite ?_ ?_
  ·
    exact kp_some h_g
  ·
    refine kp_cb (w_fX12_lostBy _ _ _ _ _ FW.refl) rfl rfl h_g (fun x3 g4 L5 h_g4 => ?_)
    refine kp_cb (w_fX12_lostBy _ _ _ _ _ FW.refl) rfl rfl h_g4 (fun x7 g8 L9 h_g8 => ?_)
    refine kp_ite ?_ ?_
    ·
      exact w_fX12_best_p32 _ _ _ _ _ _ _ hk9 h_g8
    ·
      exact w_fX12_best_p32 _ _ _ _ _ _ _ hk9 h_g8
theorem w_fX12_best_l9 (g0 : gT) (fu : Nat) (v1 : Int32) (v2 : Int32) (g : gT) (L : lT) (h_g : FW wA_fX12_best wB_fX12_best g0 g) : Kp wA_fX12_best wB_fX12_best g0 (fX12_best_l9 fu v1 v2 g L) := by
  unfold fX12_best_l9
  exact kp_loop (fun v => v.2.2.1) (fun k_ hk_ v hv_ => w_fX12_best_s9 _ _ _ _ _ _ _ hk_ hv_) h_g
theorem w_fX12_best (g0 : gT) (fu : Nat) (g : gT) (L : lT) (h_g : FW wA_fX12_best wB_fX12_best g0 g) : Kp wA_fX12_best wB_fX12_best g0 (fX12_best fu g L) := by
  unfold fX12_best
  refine kp_stF (by decide) h_g (fun g1 h_g1 => ?_)
  exact w_fX12_best_l9 _ _ _ _ _ _ h_g1
abbrev wA_fX12_copies_12_42 : List (Nat × Nat) := []
abbrev wB_fX12_copies_12_42 : List Nat := [42]
theorem w_fX12_copies_12_42_s2 (g0 : gT) (fu : Nat) (k2 : Int32 × gT × lT → Option ((Unit) × zS)) (v3 : Int32) (g : gT) (L : lT) (hk2 : ∀ v : Int32 × gT × lT, FW wA_fX12_copies_12_42 wB_fX12_copies_12_42 g0 (v.2.1) → Kp wA_fX12_copies_12_42 wB_fX12_copies_12_42 g0 (k2 v)) (h_g : FW wA_fX12_copies_12_42 wB_fX12_copies_12_42 g0 g) : Kp wA_fX12_copies_12_42 wB_fX12_copies_12_42 g0 (fX12_copies_12_42_s2 fu k2 v3 g L) := by
  unfold fX12_copies_12_42_s2
  refine kp_ite ?_ ?_
  ·
    exact kp_some h_g
  ·
    refine kp_ck ?_
    refine kp_ck ?_
    refine kp_stB (by decide) h_g (fun g2 h_g2 => ?_)
    exact hk2 _ h_g2
theorem w_fX12_copies_12_42_l2 (g0 : gT) (fu : Nat) (v3 : Int32) (g : gT) (L : lT) (h_g : FW wA_fX12_copies_12_42 wB_fX12_copies_12_42 g0 g) : Kp wA_fX12_copies_12_42 wB_fX12_copies_12_42 g0 (fX12_copies_12_42_l2 fu v3 g L) := by
  unfold fX12_copies_12_42_l2
  exact kp_loop (fun v => v.2.1) (fun k_ hk_ v hv_ => w_fX12_copies_12_42_s2 _ _ _ _ _ _ hk_ hv_) h_g
theorem w_fX12_copies_12_42 (g0 : gT) (fu : Nat) (g : gT) (L : lT) (h_g : FW wA_fX12_copies_12_42 wB_fX12_copies_12_42 g0 g) : Kp wA_fX12_copies_12_42 wB_fX12_copies_12_42 g0 (fX12_copies_12_42 fu g L) := by
  unfold fX12_copies_12_42
  exact w_fX12_copies_12_42_l2 _ _ _ _ _ h_g
abbrev wA_fX12_copies_42_12 : List (Nat × Nat) := []
abbrev wB_fX12_copies_42_12 : List Nat := [12]
theorem w_fX12_copies_42_12_s2 (g0 : gT) (fu : Nat) (k2 : Int32 × gT × lT → Option ((Unit) × zS)) (v3 : Int32) (g : gT) (L : lT) (hk2 : ∀ v : Int32 × gT × lT, FW wA_fX12_copies_42_12 wB_fX12_copies_42_12 g0 (v.2.1) → Kp wA_fX12_copies_42_12 wB_fX12_copies_42_12 g0 (k2 v)) (h_g : FW wA_fX12_copies_42_12 wB_fX12_copies_42_12 g0 g) : Kp wA_fX12_copies_42_12 wB_fX12_copies_42_12 g0 (fX12_copies_42_12_s2 fu k2 v3 g L) := by
  unfold fX12_copies_42_12_s2
  refine kp_ite ?_ ?_
  ·
    exact kp_some h_g
  ·
    refine kp_ck ?_
    refine kp_ck ?_
    refine kp_stB (by decide) h_g (fun g2 h_g2 => ?_)
    exact hk2 _ h_g2
theorem w_fX12_copies_42_12_l2 (g0 : gT) (fu : Nat) (v3 : Int32) (g : gT) (L : lT) (h_g : FW wA_fX12_copies_42_12 wB_fX12_copies_42_12 g0 g) : Kp wA_fX12_copies_42_12 wB_fX12_copies_42_12 g0 (fX12_copies_42_12_l2 fu v3 g L) := by
  unfold fX12_copies_42_12_l2
  exact kp_loop (fun v => v.2.1) (fun k_ hk_ v hv_ => w_fX12_copies_42_12_s2 _ _ _ _ _ _ hk_ hv_) h_g
theorem w_fX12_copies_42_12 (g0 : gT) (fu : Nat) (g : gT) (L : lT) (h_g : FW wA_fX12_copies_42_12 wB_fX12_copies_42_12 g0 g) : Kp wA_fX12_copies_42_12 wB_fX12_copies_42_12 g0 (fX12_copies_42_12 fu g L) := by
  unfold fX12_copies_42_12
  exact w_fX12_copies_42_12_l2 _ _ _ _ _ h_g
abbrev wA_fX12_bell : List (Nat × Nat) := [(0, 0)]
abbrev wB_fX12_bell : List Nat := [12, 29, 30, 31, 32, 33, 34, 35, 42]
theorem w_fX12_bell_p70 (g0 : gT) (fu : Nat) (k41 : Int32 × gT × lT → Option ((Int32) × zS)) (v1 : Int32) (v2 : Int32) (v3 : Int32) (g : gT) (L : lT) (hk41 : ∀ v : Int32 × gT × lT, FW wA_fX12_bell wB_fX12_bell g0 (v.2.1) → Kp wA_fX12_bell wB_fX12_bell g0 (k41 v)) (h_g : FW wA_fX12_bell wB_fX12_bell g0 g) : Kp wA_fX12_bell wB_fX12_bell g0 (fX12_bell_p70 fu k41 v1 v2 v3 g L) := by
  unfold fX12_bell_p70
  exact hk41 _ h_g
theorem w_fX12_bell_s41 (g0 : gT) (fu : Nat) (v1 : Int32) (v2 : Int32) (k41 : Int32 × gT × lT → Option ((Int32) × zS)) (v3 : Int32) (g : gT) (L : lT) (hk41 : ∀ v : Int32 × gT × lT, FW wA_fX12_bell wB_fX12_bell g0 (v.2.1) → Kp wA_fX12_bell wB_fX12_bell g0 (k41 v)) (h_g : FW wA_fX12_bell wB_fX12_bell g0 g) : Kp wA_fX12_bell wB_fX12_bell g0 (fX12_bell_s41 fu v1 v2 k41 v3 g L) := by
  unfold fX12_bell_s41
  refine kp_ite ?_ ?_
  ·
    refine kp_cb (w_fX12_lost _ _ _ _ FW.refl) rfl rfl h_g (fun x20 g21 L22 h_g21 => ?_)
    refine kp_lti (fun x24 => ?_)
    refine kp_cb (w_fX12_copies_42_12 _ _ _ _ FW.refl) rfl rfl h_g21 (fun x25 g26 L27 h_g26 => ?_)
    exact kp_some h_g26
  ·
    refine kp_ck ?_
    refine kp_ite ?_ ?_
    ·
      exact w_fX12_bell_p70 _ _ _ _ _ _ _ _ hk41 h_g
    ·
      refine kp_ck ?_
      refine kp_stB (by decide) h_g (fun g30 h_g30 => ?_)
      exact w_fX12_bell_p70 _ _ _ _ _ _ _ _ hk41 h_g30
theorem w_fX12_bell_l41 (g0 : gT) (fu : Nat) (v1 : Int32) (v2 : Int32) (v3 : Int32) (g : gT) (L : lT) (h_g : FW wA_fX12_bell wB_fX12_bell g0 g) : Kp wA_fX12_bell wB_fX12_bell g0 (fX12_bell_l41 fu v1 v2 v3 g L) := by
  unfold fX12_bell_l41
  exact kp_loop (fun v => v.2.1) (fun k_ hk_ v hv_ => w_fX12_bell_s41 _ _ _ _ _ _ _ _ hk_ hv_) h_g
theorem w_fX12_bell (g0 : gT) (fu : Nat) (p1 : Int32) (g : gT) (L : lT) (h_g : FW wA_fX12_bell wB_fX12_bell g0 g) : Kp wA_fX12_bell wB_fX12_bell g0 (fX12_bell fu p1 g L) := by
  unfold fX12_bell
  refine kp_stF (by decide) h_g (fun g1 h_g1 => ?_)
  refine kp_cb (w_fX12_within _ _ _ _ _ _ _ FW.refl) rfl rfl h_g1 (fun x2 g3 L4 h_g3 => ?_)
  refine kp_cb (w_fX12_right _ _ _ _ _ _ FW.refl) rfl rfl h_g3 (fun x6 g7 L8 h_g7 => ?_)
  refine kp_ite ?_ ?_
  ·
    exact kp_some h_g7
  ·
    refine kp_cb (w_fX12_lost _ _ _ _ FW.refl) rfl rfl h_g7 (fun x11 g12 L13 h_g12 => ?_)
    refine kp_cb (w_fX12_copies_12_42 _ _ _ _ FW.refl) rfl rfl h_g12 (fun x15 g16 L17 h_g16 => ?_)
    exact w_fX12_bell_l41 _ _ _ _ _ _ _ h_g16
abbrev wA_fX12_harm : List (Nat × Nat) := [(0, 0)]
abbrev wB_fX12_harm : List Nat := [12, 29, 30, 31, 32, 33, 34, 35]
theorem w_fX12_harm_p21 (g0 : gT) (fu : Nat) (g : gT) (L : lT) (h_g : FW wA_fX12_harm wB_fX12_harm g0 g) : Kp wA_fX12_harm wB_fX12_harm g0 (fX12_harm_p21 fu g L) := by
  unfold fX12_harm_p21
  exact kp_some h_g
theorem w_fX12_harm (g0 : gT) (fu : Nat) (p1 : Int32) (p2 : Int32) (g : gT) (L : lT) (h_g : FW wA_fX12_harm wB_fX12_harm g0 g) : Kp wA_fX12_harm wB_fX12_harm g0 (fX12_harm fu p1 p2 g L) := by
  unfold fX12_harm
  refine kp_stF (by decide) h_g (fun g1 h_g1 => ?_)
  refine kp_cb (w_fX12_isLesson _ _ _ _ _ FW.refl) rfl rfl h_g1 (fun x2 g3 L4 h_g3 => ?_)
  refine kp_ite ?_ ?_
  ·
    exact w_fX12_harm_p21 _ _ _ _ h_g3
  ·
    refine kp_cb (w_fX12_isLesson _ _ _ _ _ FW.refl) rfl rfl h_g3 (fun x7 g8 L9 h_g8 => ?_)
    refine kp_ite ?_ ?_
    ·
      exact w_fX12_harm_p21 _ _ _ _ h_g8
    ·
      refine kp_cb (w_fX12_works0 _ _ _ _ FW.refl) rfl rfl h_g8 (fun x12 g13 L14 h_g13 => ?_)
      refine kp_cb (w_fX12_late _ _ _ _ _ FW.refl) rfl rfl h_g13 (fun x16 g17 L18 h_g17 => ?_)
      refine kp_ck ?_
      refine kp_lti (fun x20 => ?_)
      refine kp_ck ?_
      refine kp_stB (by decide) h_g17 (fun g21 h_g21 => ?_)
      refine kp_cb (w_fX12_works0 _ _ _ _ FW.refl) rfl rfl h_g21 (fun x22 g23 L24 h_g23 => ?_)
      refine kp_ck ?_
      refine kp_stB (by decide) h_g23 (fun g26 h_g26 => ?_)
      refine kp_cb (w_fX12_late _ _ _ _ _ FW.refl) rfl rfl h_g26 (fun x27 g28 L29 h_g28 => ?_)
      exact kp_some h_g28
abbrev wA_fX12_pair : List (Nat × Nat) := [(0, 0)]
abbrev wB_fX12_pair : List Nat := [12, 29, 30, 31, 32, 33, 34, 35, 42]
theorem w_fX12_pair_p149 (g0 : gT) (fu : Nat) (t0 : Int32) (g : gT) (L : lT) (h_g : FW wA_fX12_pair wB_fX12_pair g0 g) : Kp wA_fX12_pair wB_fX12_pair g0 (fX12_pair_p149 fu t0 g L) := by
  unfold fX12_pair_p149
  exact kp_some h_g
theorem w_fX12_pair_p144 (g0 : gT) (fu : Nat) (v2 : Int32) (g : gT) (L : lT) (h_g : FW wA_fX12_pair wB_fX12_pair g0 g) : Kp wA_fX12_pair wB_fX12_pair g0 (fX12_pair_p144 fu v2 g L) := by
  unfold fX12_pair_p144
  exact w_fX12_pair_p149 _ _ _ _ _ h_g
theorem w_fX12_pair_p123 (g0 : gT) (fu : Nat) (k35 : Int32 × Int32 × Int32 × gT × lT → Option ((Int32) × zS)) (k50 : Int32 × Int32 × Int32 × gT × lT → Option ((Int32) × zS)) (v1 : Int32) (v2 : Int32) (v3 : Int32) (v4 : Int32) (v5 : Int32) (g : gT) (L : lT) (hk35 : ∀ v : Int32 × Int32 × Int32 × gT × lT, FW wA_fX12_pair wB_fX12_pair g0 (v.2.2.2.1) → Kp wA_fX12_pair wB_fX12_pair g0 (k35 v)) (hk50 : ∀ v : Int32 × Int32 × Int32 × gT × lT, FW wA_fX12_pair wB_fX12_pair g0 (v.2.2.2.1) → Kp wA_fX12_pair wB_fX12_pair g0 (k50 v)) (h_g : FW wA_fX12_pair wB_fX12_pair g0 g) : Kp wA_fX12_pair wB_fX12_pair g0 (fX12_pair_p123 fu k35 k50 v1 v2 v3 v4 v5 g L) := by
  unfold fX12_pair_p123
  exact hk50 _ h_g
theorem w_fX12_pair_p111 (g0 : gT) (fu : Nat) (k35 : Int32 × Int32 × Int32 × gT × lT → Option ((Int32) × zS)) (k50 : Int32 × Int32 × Int32 × gT × lT → Option ((Int32) × zS)) (v1 : Int32) (v4 : Int32) (v5 : Int32) (v6 : Int32) (g : gT) (L : lT) (hk35 : ∀ v : Int32 × Int32 × Int32 × gT × lT, FW wA_fX12_pair wB_fX12_pair g0 (v.2.2.2.1) → Kp wA_fX12_pair wB_fX12_pair g0 (k35 v)) (hk50 : ∀ v : Int32 × Int32 × Int32 × gT × lT, FW wA_fX12_pair wB_fX12_pair g0 (v.2.2.2.1) → Kp wA_fX12_pair wB_fX12_pair g0 (k50 v)) (h_g : FW wA_fX12_pair wB_fX12_pair g0 g) : Kp wA_fX12_pair wB_fX12_pair g0 (fX12_pair_p111 fu k35 k50 v1 v4 v5 v6 g L) := by
  unfold fX12_pair_p111
  refine kp_lti (fun x26 => ?_)
  exact w_fX12_pair_p123 _ _ _ _ _ _ _ _ _ _ _ hk35 hk50 h_g
theorem w_fX12_pair_s50 (g0 : gT) (fu : Nat) (k35 : Int32 × Int32 × Int32 × gT × lT → Option ((Int32) × zS)) (v1 : Int32) (v4 : Int32) (k50 : Int32 × Int32 × Int32 × gT × lT → Option ((Int32) × zS)) (v2 : Int32) (v3 : Int32) (v5 : Int32) (g : gT) (L : lT) (hk35 : ∀ v : Int32 × Int32 × Int32 × gT × lT, FW wA_fX12_pair wB_fX12_pair g0 (v.2.2.2.1) → Kp wA_fX12_pair wB_fX12_pair g0 (k35 v)) (hk50 : ∀ v : Int32 × Int32 × Int32 × gT × lT, FW wA_fX12_pair wB_fX12_pair g0 (v.2.2.2.1) → Kp wA_fX12_pair wB_fX12_pair g0 (k50 v)) (h_g : FW wA_fX12_pair wB_fX12_pair g0 g) : Kp wA_fX12_pair wB_fX12_pair g0 (fX12_pair_s50 fu k35 v1 v4 k50 v2 v3 v5 g L) := by
  unfold fX12_pair_s50
  refine kp_ite ?_ ?_
  ·
    exact hk35 _ h_g
  ·
    refine kp_ck ?_
    refine kp_stB (by decide) h_g (fun g16 h_g16 => ?_)
    refine kp_ck ?_
    refine kp_stB (by decide) h_g16 (fun g17 h_g17 => ?_)
    refine kp_cb (w_fX12_lost _ _ _ _ FW.refl) rfl rfl h_g17 (fun x18 g19 L20 h_g19 => ?_)
    refine kp_cb (w_fX12_copies_42_12 _ _ _ _ FW.refl) rfl rfl h_g19 (fun x22 g23 L24 h_g23 => ?_)
    refine kp_ite ?_ ?_
    ·
      exact w_fX12_pair_p111 _ _ _ _ _ _ _ _ _ _ hk35 hk50 h_g23
    ·
      refine kp_ite ?_ ?_
      ·
        exact w_fX12_pair_p111 _ _ _ _ _ _ _ _ _ _ hk35 hk50 h_g23
      ·
        exact w_fX12_pair_p123 _ _ _ _ _ _ _ _ _ _ _ hk35 hk50 h_g23
theorem w_fX12_pair_l50 (g0 : gT) (fu : Nat) (k35 : Int32 × Int32 × Int32 × gT × lT → Option ((Int32) × zS)) (v1 : Int32) (v4 : Int32) (v2 : Int32) (v3 : Int32) (v5 : Int32) (g : gT) (L : lT) (hk35 : ∀ v : Int32 × Int32 × Int32 × gT × lT, FW wA_fX12_pair wB_fX12_pair g0 (v.2.2.2.1) → Kp wA_fX12_pair wB_fX12_pair g0 (k35 v)) (h_g : FW wA_fX12_pair wB_fX12_pair g0 g) : Kp wA_fX12_pair wB_fX12_pair g0 (fX12_pair_l50 fu k35 v1 v4 v2 v3 v5 g L) := by
  unfold fX12_pair_l50
  exact kp_loop (fun v => v.2.2.2.1) (fun k_ hk_ v hv_ => w_fX12_pair_s50 _ _ _ _ _ _ _ _ _ _ _ hk35 hk_ hv_) h_g
theorem w_fX12_pair_s35 (g0 : gT) (fu : Nat) (v1 : Int32) (k35 : Int32 × Int32 × Int32 × gT × lT → Option ((Int32) × zS)) (v2 : Int32) (v3 : Int32) (v4 : Int32) (g : gT) (L : lT) (hk35 : ∀ v : Int32 × Int32 × Int32 × gT × lT, FW wA_fX12_pair wB_fX12_pair g0 (v.2.2.2.1) → Kp wA_fX12_pair wB_fX12_pair g0 (k35 v)) (h_g : FW wA_fX12_pair wB_fX12_pair g0 g) : Kp wA_fX12_pair wB_fX12_pair g0 (fX12_pair_s35 fu v1 k35 v2 v3 v4 g L) := by
  unfold fX12_pair_s35
  refine kp_ite ?_ ?_
  ·
    refine kp_ite ?_ ?_
    ·
      exact w_fX12_pair_p144 _ _ _ _ _ h_g
    ·
      refine kp_ite ?_ ?_
      ·
        exact w_fX12_pair_p144 _ _ _ _ _ h_g
      ·
        exact w_fX12_pair_p149 _ _ _ _ _ h_g
  ·
    refine kp_lti (fun x14 => ?_)
    exact w_fX12_pair_l50 _ _ _ _ _ _ _ _ _ _ hk35 h_g
theorem w_fX12_pair_l35 (g0 : gT) (fu : Nat) (v1 : Int32) (v2 : Int32) (v3 : Int32) (v4 : Int32) (g : gT) (L : lT) (h_g : FW wA_fX12_pair wB_fX12_pair g0 g) : Kp wA_fX12_pair wB_fX12_pair g0 (fX12_pair_l35 fu v1 v2 v3 v4 g L) := by
  unfold fX12_pair_l35
  exact kp_loop (fun v => v.2.2.2.1) (fun k_ hk_ v hv_ => w_fX12_pair_s35 _ _ _ _ _ _ _ _ _ hk_ hv_) h_g
theorem w_fX12_pair (g0 : gT) (fu : Nat) (p1 : Int32) (g : gT) (L : lT) (h_g : FW wA_fX12_pair wB_fX12_pair g0 g) : Kp wA_fX12_pair wB_fX12_pair g0 (fX12_pair fu p1 g L) := by
  unfold fX12_pair
  refine kp_stF (by decide) h_g (fun g1 h_g1 => ?_)
  refine kp_cb (w_fX12_isWhat _ _ _ _ _ _ FW.refl) rfl rfl h_g1 (fun x2 g3 L4 h_g3 => ?_)
  refine kp_ite ?_ ?_
  ·
    exact kp_some h_g3
  ·
    refine kp_cb (w_fX12_copies_12_42 _ _ _ _ FW.refl) rfl rfl h_g3 (fun x7 g8 L9 h_g8 => ?_)
    exact w_fX12_pair_l35 _ _ _ _ _ _ _ _ h_g8
abbrev wA_fX12_pause : List (Nat × Nat) := [(0, 0)]
abbrev wB_fX12_pause : List Nat := [12, 29, 30, 31, 32, 33, 34, 35, 42]
theorem w_fX12_pause_p29 (g0 : gT) (fu : Nat) (g : gT) (L : lT) (h_g : FW wA_fX12_pause wB_fX12_pause g0 g) : Kp wA_fX12_pause wB_fX12_pause g0 (fX12_pause_p29 fu g L) := by
  unfold fX12_pause_p29
  exact kp_some h_g
theorem w_fX12_pause_p197 (g0 : gT) (fu : Nat) (t0 : Int32) (g : gT) (L : lT) (h_g : FW wA_fX12_pause wB_fX12_pause g0 g) : Kp wA_fX12_pause wB_fX12_pause g0 (fX12_pause_p197 fu t0 g L) := by
  unfold fX12_pause_p197
  exact kp_some h_g
theorem w_fX12_pause_p191 (g0 : gT) (fu : Nat) (v3 : Int32) (g : gT) (L : lT) (h_g : FW wA_fX12_pause wB_fX12_pause g0 g) : Kp wA_fX12_pause wB_fX12_pause g0 (fX12_pause_p191 fu v3 g L) := by
  unfold fX12_pause_p191
  exact w_fX12_pause_p197 _ _ _ _ _ h_g
theorem w_fX12_pause_p176 (g0 : gT) (fu : Nat) (k51 : Int32 × Int32 × Int32 × gT × lT → Option ((Int32) × zS)) (v1 : Int32) (v2 : Int32) (v3 : Int32) (v4 : Int32) (v5 : Int32) (g : gT) (L : lT) (hk51 : ∀ v : Int32 × Int32 × Int32 × gT × lT, FW wA_fX12_pause wB_fX12_pause g0 (v.2.2.2.1) → Kp wA_fX12_pause wB_fX12_pause g0 (k51 v)) (h_g : FW wA_fX12_pause wB_fX12_pause g0 g) : Kp wA_fX12_pause wB_fX12_pause g0 (fX12_pause_p176 fu k51 v1 v2 v3 v4 v5 g L) := by
  unfold fX12_pause_p176
  exact hk51 _ h_g
theorem w_fX12_pause_p164 (g0 : gT) (fu : Nat) (k51 : Int32 × Int32 × Int32 × gT × lT → Option ((Int32) × zS)) (v1 : Int32) (v2 : Int32) (v5 : Int32) (v6 : Int32) (g : gT) (L : lT) (hk51 : ∀ v : Int32 × Int32 × Int32 × gT × lT, FW wA_fX12_pause wB_fX12_pause g0 (v.2.2.2.1) → Kp wA_fX12_pause wB_fX12_pause g0 (k51 v)) (h_g : FW wA_fX12_pause wB_fX12_pause g0 g) : Kp wA_fX12_pause wB_fX12_pause g0 (fX12_pause_p164 fu k51 v1 v2 v5 v6 g L) := by
  unfold fX12_pause_p164
  refine kp_ck ?_
  refine kp_lti (fun x32 => ?_)
  exact w_fX12_pause_p176 _ _ _ _ _ _ _ _ _ _ hk51 h_g
theorem w_fX12_pause_p105 (g0 : gT) (fu : Nat) (k51 : Int32 × Int32 × Int32 × gT × lT → Option ((Int32) × zS)) (k63 : Int32 × gT × lT → Option ((Int32) × zS)) (v1 : Int32) (v2 : Int32) (v3 : Int32) (v4 : Int32) (v5 : Int32) (v6 : Int32) (t0 : Int32) (t1 : Int32) (t2 : Int32) (g : gT) (L : lT) (hk51 : ∀ v : Int32 × Int32 × Int32 × gT × lT, FW wA_fX12_pause wB_fX12_pause g0 (v.2.2.2.1) → Kp wA_fX12_pause wB_fX12_pause g0 (k51 v)) (hk63 : ∀ v : Int32 × gT × lT, FW wA_fX12_pause wB_fX12_pause g0 (v.2.1) → Kp wA_fX12_pause wB_fX12_pause g0 (k63 v)) (h_g : FW wA_fX12_pause wB_fX12_pause g0 g) : Kp wA_fX12_pause wB_fX12_pause g0 (fX12_pause_p105 fu k51 k63 v1 v2 v3 v4 v5 v6 t0 t1 t2 g L) := by
  unfold fX12_pause_p105
  refine kp_ck ?_
  refine kp_stB (by decide) h_g (fun g37 h_g37 => ?_)
  exact hk63 _ h_g37
theorem w_fX12_pause_s63 (g0 : gT) (fu : Nat) (k51 : Int32 × Int32 × Int32 × gT × lT → Option ((Int32) × zS)) (v1 : Int32) (v2 : Int32) (v3 : Int32) (v4 : Int32) (v5 : Int32) (k63 : Int32 × gT × lT → Option ((Int32) × zS)) (v6 : Int32) (g : gT) (L : lT) (hk51 : ∀ v : Int32 × Int32 × Int32 × gT × lT, FW wA_fX12_pause wB_fX12_pause g0 (v.2.2.2.1) → Kp wA_fX12_pause wB_fX12_pause g0 (k51 v)) (hk63 : ∀ v : Int32 × gT × lT, FW wA_fX12_pause wB_fX12_pause g0 (v.2.1) → Kp wA_fX12_pause wB_fX12_pause g0 (k63 v)) (h_g : FW wA_fX12_pause wB_fX12_pause g0 g) : Kp wA_fX12_pause wB_fX12_pause g0 (fX12_pause_s63 fu k51 v1 v2 v3 v4 v5 k63 v6 g L) := by
  unfold fX12_pause_s63
  refine kp_ite ?_ ?_
  ·
    refine kp_cb (w_fX12_lost _ _ _ _ FW.refl) rfl rfl h_g (fun x24 g25 L26 h_g25 => ?_)
    refine kp_cb (w_fX12_copies_42_12 _ _ _ _ FW.refl) rfl rfl h_g25 (fun x28 g29 L30 h_g29 => ?_)
    refine kp_ite ?_ ?_
    ·
      exact w_fX12_pause_p164 _ _ _ _ _ _ _ _ _ hk51 h_g29
    ·
      refine kp_ite ?_ ?_
      ·
        exact w_fX12_pause_p176 _ _ _ _ _ _ _ _ _ _ hk51 h_g29
      ·
        refine kp_ite ?_ ?_
        ·
          refine kp_ck ?_
          refine kp_ite ?_ ?_
          ·
            exact w_fX12_pause_p164 _ _ _ _ _ _ _ _ _ hk51 h_g29
          ·
            exact w_fX12_pause_p176 _ _ _ _ _ _ _ _ _ _ hk51 h_g29
        ·
          exact w_fX12_pause_p164 _ _ _ _ _ _ _ _ _ hk51 h_g29
  ·
    refine kp_ck ?_
    refine kp_ck ?_
    refine kp_ck ?_
    refine kp_ite ?_ ?_
    ·
      exact w_fX12_pause_p105 _ _ _ _ _ _ _ _ _ _ _ _ _ _ _ hk51 hk63 h_g
    ·
      exact w_fX12_pause_p105 _ _ _ _ _ _ _ _ _ _ _ _ _ _ _ hk51 hk63 h_g
theorem w_fX12_pause_l63 (g0 : gT) (fu : Nat) (k51 : Int32 × Int32 × Int32 × gT × lT → Option ((Int32) × zS)) (v1 : Int32) (v2 : Int32) (v3 : Int32) (v4 : Int32) (v5 : Int32) (v6 : Int32) (g : gT) (L : lT) (hk51 : ∀ v : Int32 × Int32 × Int32 × gT × lT, FW wA_fX12_pause wB_fX12_pause g0 (v.2.2.2.1) → Kp wA_fX12_pause wB_fX12_pause g0 (k51 v)) (h_g : FW wA_fX12_pause wB_fX12_pause g0 g) : Kp wA_fX12_pause wB_fX12_pause g0 (fX12_pause_l63 fu k51 v1 v2 v3 v4 v5 v6 g L) := by
  unfold fX12_pause_l63
  exact kp_loop (fun v => v.2.1) (fun k_ hk_ v hv_ => w_fX12_pause_s63 _ _ _ _ _ _ _ _ _ _ _ _ hk51 hk_ hv_) h_g
theorem w_fX12_pause_s51 (g0 : gT) (fu : Nat) (v1 : Int32) (v2 : Int32) (k51 : Int32 × Int32 × Int32 × gT × lT → Option ((Int32) × zS)) (v3 : Int32) (v4 : Int32) (v5 : Int32) (g : gT) (L : lT) (hk51 : ∀ v : Int32 × Int32 × Int32 × gT × lT, FW wA_fX12_pause wB_fX12_pause g0 (v.2.2.2.1) → Kp wA_fX12_pause wB_fX12_pause g0 (k51 v)) (h_g : FW wA_fX12_pause wB_fX12_pause g0 g) : Kp wA_fX12_pause wB_fX12_pause g0 (fX12_pause_s51 fu v1 v2 k51 v3 v4 v5 g L) := by
  unfold fX12_pause_s51
  refine kp_ite ?_ ?_
  ·
    refine kp_ite ?_ ?_
    ·
      exact w_fX12_pause_p191 _ _ _ _ _ h_g
    ·
      refine kp_ite ?_ ?_
      ·
        exact w_fX12_pause_p191 _ _ _ _ _ h_g
      ·
        exact w_fX12_pause_p197 _ _ _ _ _ h_g
  ·
    exact w_fX12_pause_l63 _ _ _ _ _ _ _ _ _ _ _ hk51 h_g
theorem w_fX12_pause_l51 (g0 : gT) (fu : Nat) (v1 : Int32) (v2 : Int32) (v3 : Int32) (v4 : Int32) (v5 : Int32) (g : gT) (L : lT) (h_g : FW wA_fX12_pause wB_fX12_pause g0 g) : Kp wA_fX12_pause wB_fX12_pause g0 (fX12_pause_l51 fu v1 v2 v3 v4 v5 g L) := by
  unfold fX12_pause_l51
  exact kp_loop (fun v => v.2.2.2.1) (fun k_ hk_ v hv_ => w_fX12_pause_s51 _ _ _ _ _ _ _ _ _ _ hk_ hv_) h_g
theorem w_fX12_pause (g0 : gT) (fu : Nat) (p1 : Int32) (p2 : Int32) (g : gT) (L : lT) (h_g : FW wA_fX12_pause wB_fX12_pause g0 g) : Kp wA_fX12_pause wB_fX12_pause g0 (fX12_pause fu p1 p2 g L) := by
  unfold fX12_pause
  refine kp_stF (by decide) h_g (fun g1 h_g1 => ?_)
  refine kp_cb (w_fX12_isWhat _ _ _ _ _ _ FW.refl) rfl rfl h_g1 (fun x2 g3 L4 h_g3 => ?_)
  refine kp_ite ?_ ?_
  ·
    exact w_fX12_pause_p29 _ _ _ _ h_g3
  ·
    refine kp_cb (w_fX12_within _ _ _ _ _ _ _ FW.refl) rfl rfl h_g3 (fun x7 g8 L9 h_g8 => ?_)
    refine kp_cb (w_fX12_right _ _ _ _ _ _ FW.refl) rfl rfl h_g8 (fun x11 g12 L13 h_g12 => ?_)
    refine kp_ite ?_ ?_
    ·
      exact w_fX12_pause_p29 _ _ _ _ h_g12
    ·
      refine kp_cb (w_fX12_copies_12_42 _ _ _ _ FW.refl) rfl rfl h_g12 (fun x16 g17 L18 h_g17 => ?_)
      exact w_fX12_pause_l51 _ _ _ _ _ _ _ _ _ h_g17
abbrev wA_fX12_shift : List (Nat × Nat) := [(0, 0)]
abbrev wB_fX12_shift : List Nat := [1, 2, 29, 30, 31, 32, 33, 34, 35]
theorem w_fX12_shift_p22 (g0 : gT) (fu : Nat) (g : gT) (L : lT) (h_g : FW wA_fX12_shift wB_fX12_shift g0 g) : Kp wA_fX12_shift wB_fX12_shift g0 (fX12_shift_p22 fu g L) := by
  unfold fX12_shift_p22
  exact kp_some h_g
theorem w_fX12_shift_p165 (g0 : gT) (fu : Nat) (t0 : Int32) (g : gT) (L : lT) (h_g : FW wA_fX12_shift wB_fX12_shift g0 g) : Kp wA_fX12_shift wB_fX12_shift g0 (fX12_shift_p165 fu t0 g L) := by
  unfold fX12_shift_p165
  exact kp_some h_g
theorem w_fX12_shift_p133 (g0 : gT) (fu : Nat) (k52 : Int32 × Int32 × Int32 × Int32 × gT × lT → Option ((Int32) × zS)) (v1 : Int32) (v2 : Int32) (v3 : Int32) (v4 : Int32) (v5 : Int32) (v6 : Int32) (v7 : Int32) (v8 : Int32) (g : gT) (L : lT) (hk52 : ∀ v : Int32 × Int32 × Int32 × Int32 × gT × lT, FW wA_fX12_shift wB_fX12_shift g0 (v.2.2.2.2.1) → Kp wA_fX12_shift wB_fX12_shift g0 (k52 v)) (h_g : FW wA_fX12_shift wB_fX12_shift g0 g) : Kp wA_fX12_shift wB_fX12_shift g0 (fX12_shift_p133 fu k52 v1 v2 v3 v4 v5 v6 v7 v8 g L) := by
  unfold fX12_shift_p133
  exact hk52 _ h_g
theorem w_fX12_shift_p122 (g0 : gT) (fu : Nat) (k52 : Int32 × Int32 × Int32 × Int32 × gT × lT → Option ((Int32) × zS)) (v1 : Int32) (v2 : Int32) (v3 : Int32) (v4 : Int32) (v8 : Int32) (v9 : Int32) (g : gT) (L : lT) (hk52 : ∀ v : Int32 × Int32 × Int32 × Int32 × gT × lT, FW wA_fX12_shift wB_fX12_shift g0 (v.2.2.2.2.1) → Kp wA_fX12_shift wB_fX12_shift g0 (k52 v)) (h_g : FW wA_fX12_shift wB_fX12_shift g0 g) : Kp wA_fX12_shift wB_fX12_shift g0 (fX12_shift_p122 fu k52 v1 v2 v3 v4 v8 v9 g L) := by
  unfold fX12_shift_p122
  exact w_fX12_shift_p133 _ _ _ _ _ _ _ _ _ _ _ _ _ hk52 h_g
theorem w_fX12_shift_s52 (g0 : gT) (fu : Nat) (v1 : Int32) (v2 : Int32) (v3 : Int32) (v4 : Int32) (k52 : Int32 × Int32 × Int32 × Int32 × gT × lT → Option ((Int32) × zS)) (v5 : Int32) (v6 : Int32) (v7 : Int32) (v8 : Int32) (g : gT) (L : lT) (hk52 : ∀ v : Int32 × Int32 × Int32 × Int32 × gT × lT, FW wA_fX12_shift wB_fX12_shift g0 (v.2.2.2.2.1) → Kp wA_fX12_shift wB_fX12_shift g0 (k52 v)) (h_g : FW wA_fX12_shift wB_fX12_shift g0 g) : Kp wA_fX12_shift wB_fX12_shift g0 (fX12_shift_s52 fu v1 v2 v3 v4 k52 v5 v6 v7 v8 g L) := by
  unfold fX12_shift_s52
  refine kp_ite ?_ ?_
  ·
    refine kp_ck ?_
    refine kp_stB (by decide) h_g (fun g15 h_g15 => ?_)
    refine kp_ck ?_
    refine kp_stB (by decide) h_g15 (fun g16 h_g16 => ?_)
    refine kp_ite ?_ ?_
    ·
      exact w_fX12_shift_p165 _ _ _ _ _ h_g16
    ·
      exact w_fX12_shift_p165 _ _ _ _ _ h_g16
  ·
    refine kp_ite ?_ ?_
    ·
      exact w_fX12_shift_p133 _ _ _ _ _ _ _ _ _ _ _ _ _ hk52 h_g
    ·
      refine kp_ite ?_ ?_
      ·
        refine kp_ck ?_
        refine kp_stB (by decide) h_g (fun g20 h_g20 => ?_)
        refine kp_ck ?_
        refine kp_stB (by decide) h_g20 (fun g21 h_g21 => ?_)
        refine kp_cb (w_fX12_lost _ _ _ _ FW.refl) rfl rfl h_g21 (fun x22 g23 L24 h_g23 => ?_)
        refine kp_ite ?_ ?_
        ·
          exact w_fX12_shift_p122 _ _ _ _ _ _ _ _ _ _ _ hk52 h_g23
        ·
          refine kp_ite ?_ ?_
          ·
            exact w_fX12_shift_p122 _ _ _ _ _ _ _ _ _ _ _ hk52 h_g23
          ·
            exact w_fX12_shift_p133 _ _ _ _ _ _ _ _ _ _ _ _ _ hk52 h_g23
      ·
        exact w_fX12_shift_p133 _ _ _ _ _ _ _ _ _ _ _ _ _ hk52 h_g
theorem w_fX12_shift_l52 (g0 : gT) (fu : Nat) (v1 : Int32) (v2 : Int32) (v3 : Int32) (v4 : Int32) (v5 : Int32) (v6 : Int32) (v7 : Int32) (v8 : Int32) (g : gT) (L : lT) (h_g : FW wA_fX12_shift wB_fX12_shift g0 g) : Kp wA_fX12_shift wB_fX12_shift g0 (fX12_shift_l52 fu v1 v2 v3 v4 v5 v6 v7 v8 g L) := by
  unfold fX12_shift_l52
  exact kp_loop (fun v => v.2.2.2.2.1) (fun k_ hk_ v hv_ => w_fX12_shift_s52 _ _ _ _ _ _ _ _ _ _ _ _ _ hk_ hv_) h_g
theorem w_fX12_shift (g0 : gT) (fu : Nat) (p1 : Int32) (p2 : Int32) (g : gT) (L : lT) (h_g : FW wA_fX12_shift wB_fX12_shift g0 g) : Kp wA_fX12_shift wB_fX12_shift g0 (fX12_shift fu p1 p2 g L) := by
  unfold fX12_shift
  refine kp_stF (by decide) h_g (fun g1 h_g1 => ?_)
  refine kp_cb (w_fX12_isLesson _ _ _ _ _ FW.refl) rfl rfl h_g1 (fun x2 g3 L4 h_g3 => ?_)
  refine kp_ite ?_ ?_
  ·
    exact w_fX12_shift_p22 _ _ _ _ h_g3
  ·
    refine kp_cb (w_fX12_isWhat _ _ _ _ _ _ FW.refl) rfl rfl h_g3 (fun x7 g8 L9 h_g8 => ?_)
    refine kp_ite ?_ ?_
    ·
      exact w_fX12_shift_p22 _ _ _ _ h_g8
    ·
      refine kp_ck ?_
      refine kp_lti (fun x12 => ?_)
      refine kp_ck ?_
      refine kp_lti (fun x13 => ?_)
      exact w_fX12_shift_l52 _ _ _ _ _ _ _ _ _ _ _ _ h_g8
abbrev wA_fX12_see : List (Nat × Nat) := [(0, 0), (0, 73)]
abbrev wB_fX12_see : List Nat := [14, 43]
theorem w_fX12_see_p35 (g0 : gT) (fu : Nat) (g : gT) (L : lT) (h_g : FW wA_fX12_see wB_fX12_see g0 g) : Kp wA_fX12_see wB_fX12_see g0 (fX12_see_p35 fu g L) := by
  unfold fX12_see_p35
  refine kp_cb (w_fX12_refuses _ _ _ _ _ FW.refl) rfl rfl h_g (fun x7 g8 L9 h_g8 => ?_)
  exact kp_some h_g8
theorem w_fX12_see (g0 : gT) (fu : Nat) (p1 : Int32) (p2 : Int32) (g : gT) (L : lT) (h_g : FW wA_fX12_see wB_fX12_see g0 g) : Kp wA_fX12_see wB_fX12_see g0 (fX12_see fu p1 p2 g L) := by
  unfold fX12_see
  refine kp_stF (by decide) h_g (fun g1 h_g1 => ?_)
  refine kp_cb (w_fX12_isLesson _ _ _ _ _ FW.refl) rfl rfl h_g1 (fun x2 g3 L4 h_g3 => ?_)
  refine kp_ite ?_ ?_
  ·
    exact kp_some h_g3
  ·
    refine kp_ite ?_ ?_
    ·
      exact w_fX12_see_p35 _ _ _ _ h_g3
    ·
      refine kp_cb (w_fX12_within _ _ _ _ _ _ _ FW.refl) rfl rfl h_g3 (fun x12 g13 L14 h_g13 => ?_)
      refine kp_ite ?_ ?_
      ·
        exact w_fX12_see_p35 _ _ _ _ h_g13
      ·
        refine kp_ck ?_
        refine kp_stB (by decide) h_g13 (fun g17 h_g17 => ?_)
        refine kp_ck ?_
        refine kp_stB (by decide) h_g17 (fun g18 h_g18 => ?_)
        refine kp_stF (by decide) h_g18 (fun g19 h_g19 => ?_)
        exact kp_some h_g19
abbrev wA_fX12_forget : List (Nat × Nat) := [(0, 0), (0, 73)]
abbrev wB_fX12_forget : List Nat := []
theorem w_fX12_forget (g0 : gT) (fu : Nat) (g : gT) (L : lT) (h_g : FW wA_fX12_forget wB_fX12_forget g0 g) : Kp wA_fX12_forget wB_fX12_forget g0 (fX12_forget fu g L) := by
  unfold fX12_forget
  refine kp_stF (by decide) h_g (fun g1 h_g1 => ?_)
  refine kp_stF (by decide) h_g1 (fun g2 h_g2 => ?_)
  exact kp_some h_g2
abbrev wA_fX12_isSeen : List (Nat × Nat) := []
abbrev wB_fX12_isSeen : List Nat := [29, 30, 31, 32, 33, 34, 35]
theorem w_fX12_isSeen_s6 (g0 : gT) (fu : Nat) (k6 : Int32 × gT × lT → Option ((Int32) × zS)) (v1 : Int32) (g : gT) (L : lT) (hk6 : ∀ v : Int32 × gT × lT, FW wA_fX12_isSeen wB_fX12_isSeen g0 (v.2.1) → Kp wA_fX12_isSeen wB_fX12_isSeen g0 (k6 v)) (h_g : FW wA_fX12_isSeen wB_fX12_isSeen g0 g) : Kp wA_fX12_isSeen wB_fX12_isSeen g0 (fX12_isSeen_s6 fu k6 v1 g L) := by
  unfold fX12_isSeen_s6
  refine kp_ite ?_ ?_
  ·
    refine kp_ckb ?_
    exact kp_some h_g
  ·
    refine kp_ck ?_
    refine kp_cb (w_fX12_late _ _ _ _ _ FW.refl) rfl rfl h_g (fun x6 g7 L8 h_g7 => ?_)
    refine kp_ck ?_
    refine kp_ite ?_ ?_
    ·
      exact hk6 _ h_g7
    ·
      refine kp_ckb ?_
      exact kp_some h_g7
theorem w_fX12_isSeen_l6 (g0 : gT) (fu : Nat) (v1 : Int32) (g : gT) (L : lT) (h_g : FW wA_fX12_isSeen wB_fX12_isSeen g0 g) : Kp wA_fX12_isSeen wB_fX12_isSeen g0 (fX12_isSeen_l6 fu v1 g L) := by
  unfold fX12_isSeen_l6
  exact kp_loop (fun v => v.2.1) (fun k_ hk_ v hv_ => w_fX12_isSeen_s6 _ _ _ _ _ _ hk_ hv_) h_g
theorem w_fX12_isSeen (g0 : gT) (fu : Nat) (g : gT) (L : lT) (h_g : FW wA_fX12_isSeen wB_fX12_isSeen g0 g) : Kp wA_fX12_isSeen wB_fX12_isSeen g0 (fX12_isSeen fu g L) := by
  unfold fX12_isSeen
  refine kp_cb (w_fX12_works0 _ _ _ _ FW.refl) rfl rfl h_g (fun x1 g2 L3 h_g2 => ?_)
  exact w_fX12_isSeen_l6 _ _ _ _ _ h_g2
abbrev wA_fX12_fits : List (Nat × Nat) := [(0, 0)]
abbrev wB_fX12_fits : List Nat := [12, 29, 30, 31, 32, 33, 34, 35]
theorem w_fX12_fits_p177 (g0 : gT) (fu : Nat) (t0 : Int32) (g : gT) (L : lT) (h_g : FW wA_fX12_fits wB_fX12_fits g0 g) : Kp wA_fX12_fits wB_fX12_fits g0 (fX12_fits_p177 fu t0 g L) := by
  unfold fX12_fits_p177
  exact kp_some h_g
theorem w_fX12_fits_p126 (g0 : gT) (fu : Nat) (k29 : Int32 × Int32 × Int32 × Int32 × Int32 × gT × lT → Option ((Int32) × zS)) (k52 : Int32 × Int32 × Int32 × Int32 × Int32 × gT × lT → Option ((Int32) × zS)) (v1 : Int32) (v2 : Int32) (v3 : Int32) (v4 : Int32) (v5 : Int32) (v6 : Int32) (v7 : Int32) (v8 : Int32) (g : gT) (L : lT) (hk29 : ∀ v : Int32 × Int32 × Int32 × Int32 × Int32 × gT × lT, FW wA_fX12_fits wB_fX12_fits g0 (v.2.2.2.2.2.1) → Kp wA_fX12_fits wB_fX12_fits g0 (k29 v)) (hk52 : ∀ v : Int32 × Int32 × Int32 × Int32 × Int32 × gT × lT, FW wA_fX12_fits wB_fX12_fits g0 (v.2.2.2.2.2.1) → Kp wA_fX12_fits wB_fX12_fits g0 (k52 v)) (h_g : FW wA_fX12_fits wB_fX12_fits g0 g) : Kp wA_fX12_fits wB_fX12_fits g0 (fX12_fits_p126 fu k29 k52 v1 v2 v3 v4 v5 v6 v7 v8 g L) := by
  unfold fX12_fits_p126
  exact hk52 _ h_g
theorem w_fX12_fits_p120 (g0 : gT) (fu : Nat) (k29 : Int32 × Int32 × Int32 × Int32 × Int32 × gT × lT → Option ((Int32) × zS)) (k52 : Int32 × Int32 × Int32 × Int32 × Int32 × gT × lT → Option ((Int32) × zS)) (v1 : Int32) (v2 : Int32) (v3 : Int32) (v6 : Int32) (v7 : Int32) (v8 : Int32) (t0 : Int32) (g : gT) (L : lT) (hk29 : ∀ v : Int32 × Int32 × Int32 × Int32 × Int32 × gT × lT, FW wA_fX12_fits wB_fX12_fits g0 (v.2.2.2.2.2.1) → Kp wA_fX12_fits wB_fX12_fits g0 (k29 v)) (hk52 : ∀ v : Int32 × Int32 × Int32 × Int32 × Int32 × gT × lT, FW wA_fX12_fits wB_fX12_fits g0 (v.2.2.2.2.2.1) → Kp wA_fX12_fits wB_fX12_fits g0 (k52 v)) (h_g : FW wA_fX12_fits wB_fX12_fits g0 g) : Kp wA_fX12_fits wB_fX12_fits g0 (fX12_fits_p120 fu k29 k52 v1 v2 v3 v6 v7 v8 t0 g L) := by
  unfold fX12_fits_p120
  exact w_fX12_fits_p126 _ _ _ _ _ _ _ _ _ _ _ _ _ _ hk29 hk52 h_g
theorem w_fX12_fits_p119 (g0 : gT) (fu : Nat) (k29 : Int32 × Int32 × Int32 × Int32 × Int32 × gT × lT → Option ((Int32) × zS)) (k52 : Int32 × Int32 × Int32 × Int32 × Int32 × gT × lT → Option ((Int32) × zS)) (v1 : Int32) (v2 : Int32) (v3 : Int32) (v6 : Int32) (v7 : Int32) (v8 : Int32) (g : gT) (L : lT) (hk29 : ∀ v : Int32 × Int32 × Int32 × Int32 × Int32 × gT × lT, FW wA_fX12_fits wB_fX12_fits g0 (v.2.2.2.2.2.1) → Kp wA_fX12_fits wB_fX12_fits g0 (k29 v)) (hk52 : ∀ v : Int32 × Int32 × Int32 × Int32 × Int32 × gT × lT, FW wA_fX12_fits wB_fX12_fits g0 (v.2.2.2.2.2.1) → Kp wA_fX12_fits wB_fX12_fits g0 (k52 v)) (h_g : FW wA_fX12_fits wB_fX12_fits g0 g) : Kp wA_fX12_fits wB_fX12_fits g0 (fX12_fits_p119 fu k29 k52 v1 v2 v3 v6 v7 v8 g L) := by
  unfold fX12_fits_p119
  exact w_fX12_fits_p120 _ _ _ _ _ _ _ _ _ _ _ _ _ hk29 hk52 h_g
theorem w_fX12_fits_p115 (g0 : gT) (fu : Nat) (k29 : Int32 × Int32 × Int32 × Int32 × Int32 × gT × lT → Option ((Int32) × zS)) (k52 : Int32 × Int32 × Int32 × Int32 × Int32 × gT × lT → Option ((Int32) × zS)) (v1 : Int32) (v2 : Int32) (v3 : Int32) (v6 : Int32) (v7 : Int32) (v8 : Int32) (g : gT) (L : lT) (hk29 : ∀ v : Int32 × Int32 × Int32 × Int32 × Int32 × gT × lT, FW wA_fX12_fits wB_fX12_fits g0 (v.2.2.2.2.2.1) → Kp wA_fX12_fits wB_fX12_fits g0 (k29 v)) (hk52 : ∀ v : Int32 × Int32 × Int32 × Int32 × Int32 × gT × lT, FW wA_fX12_fits wB_fX12_fits g0 (v.2.2.2.2.2.1) → Kp wA_fX12_fits wB_fX12_fits g0 (k52 v)) (h_g : FW wA_fX12_fits wB_fX12_fits g0 g) : Kp wA_fX12_fits wB_fX12_fits g0 (fX12_fits_p115 fu k29 k52 v1 v2 v3 v6 v7 v8 g L) := by
  unfold fX12_fits_p115
  exact w_fX12_fits_p120 _ _ _ _ _ _ _ _ _ _ _ _ _ hk29 hk52 h_g
theorem w_fX12_fits_p97 (g0 : gT) (fu : Nat) (k29 : Int32 × Int32 × Int32 × Int32 × Int32 × gT × lT → Option ((Int32) × zS)) (k52 : Int32 × Int32 × Int32 × Int32 × Int32 × gT × lT → Option ((Int32) × zS)) (v1 : Int32) (v2 : Int32) (v3 : Int32) (v4 : Int32) (v5 : Int32) (v6 : Int32) (v7 : Int32) (v8 : Int32) (g : gT) (L : lT) (hk29 : ∀ v : Int32 × Int32 × Int32 × Int32 × Int32 × gT × lT, FW wA_fX12_fits wB_fX12_fits g0 (v.2.2.2.2.2.1) → Kp wA_fX12_fits wB_fX12_fits g0 (k29 v)) (hk52 : ∀ v : Int32 × Int32 × Int32 × Int32 × Int32 × gT × lT, FW wA_fX12_fits wB_fX12_fits g0 (v.2.2.2.2.2.1) → Kp wA_fX12_fits wB_fX12_fits g0 (k52 v)) (h_g : FW wA_fX12_fits wB_fX12_fits g0 g) : Kp wA_fX12_fits wB_fX12_fits g0 (fX12_fits_p97 fu k29 k52 v1 v2 v3 v4 v5 v6 v7 v8 g L) := by
  unfold fX12_fits_p97
  refine kp_ite ?_ ?_
  ·
    exact w_fX12_fits_p119 _ _ _ _ _ _ _ _ _ _ _ _ hk29 hk52 h_g
  ·
    refine kp_ite ?_ ?_
    ·
      exact w_fX12_fits_p115 _ _ _ _ _ _ _ _ _ _ _ _ hk29 hk52 h_g
    ·
      refine kp_ite ?_ ?_
      ·
        exact w_fX12_fits_p115 _ _ _ _ _ _ _ _ _ _ _ _ hk29 hk52 h_g
      ·
        exact w_fX12_fits_p119 _ _ _ _ _ _ _ _ _ _ _ _ hk29 hk52 h_g
theorem w_fX12_fits_s52 (g0 : gT) (fu : Nat) (k29 : Int32 × Int32 × Int32 × Int32 × Int32 × gT × lT → Option ((Int32) × zS)) (v1 : Int32) (v6 : Int32) (v7 : Int32) (k52 : Int32 × Int32 × Int32 × Int32 × Int32 × gT × lT → Option ((Int32) × zS)) (v2 : Int32) (v3 : Int32) (v4 : Int32) (v5 : Int32) (v8 : Int32) (g : gT) (L : lT) (hk29 : ∀ v : Int32 × Int32 × Int32 × Int32 × Int32 × gT × lT, FW wA_fX12_fits wB_fX12_fits g0 (v.2.2.2.2.2.1) → Kp wA_fX12_fits wB_fX12_fits g0 (k29 v)) (hk52 : ∀ v : Int32 × Int32 × Int32 × Int32 × Int32 × gT × lT, FW wA_fX12_fits wB_fX12_fits g0 (v.2.2.2.2.2.1) → Kp wA_fX12_fits wB_fX12_fits g0 (k52 v)) (h_g : FW wA_fX12_fits wB_fX12_fits g0 g) : Kp wA_fX12_fits wB_fX12_fits g0 (fX12_fits_s52 fu k29 v1 v6 v7 k52 v2 v3 v4 v5 v8 g L) := by
  unfold fX12_fits_s52
  refine kp_ite ?_ ?_
  ·
    refine kp_ck ?_
    refine kp_stB (by decide) h_g (fun g13 h_g13 => ?_)
    exact hk29 _ h_g13
  ·
    refine kp_ck ?_
    refine kp_stB (by decide) h_g (fun g14 h_g14 => ?_)
    refine kp_cb (w_fX12_isSeen _ _ _ _ FW.refl) rfl rfl h_g14 (fun x15 g16 L17 h_g16 => ?_)
    refine kp_ite ?_ ?_
    ·
      exact w_fX12_fits_p126 _ _ _ _ _ _ _ _ _ _ _ _ _ _ hk29 hk52 h_g16
    ·
      refine kp_ite ?_ ?_
      ·
        refine kp_lti (fun x24 => ?_)
        exact w_fX12_fits_p97 _ _ _ _ _ _ _ _ _ _ _ _ _ _ hk29 hk52 h_g16
      ·
        exact w_fX12_fits_p97 _ _ _ _ _ _ _ _ _ _ _ _ _ _ hk29 hk52 h_g16
theorem w_fX12_fits_l52 (g0 : gT) (fu : Nat) (k29 : Int32 × Int32 × Int32 × Int32 × Int32 × gT × lT → Option ((Int32) × zS)) (v1 : Int32) (v6 : Int32) (v7 : Int32) (v2 : Int32) (v3 : Int32) (v4 : Int32) (v5 : Int32) (v8 : Int32) (g : gT) (L : lT) (hk29 : ∀ v : Int32 × Int32 × Int32 × Int32 × Int32 × gT × lT, FW wA_fX12_fits wB_fX12_fits g0 (v.2.2.2.2.2.1) → Kp wA_fX12_fits wB_fX12_fits g0 (k29 v)) (h_g : FW wA_fX12_fits wB_fX12_fits g0 g) : Kp wA_fX12_fits wB_fX12_fits g0 (fX12_fits_l52 fu k29 v1 v6 v7 v2 v3 v4 v5 v8 g L) := by
  unfold fX12_fits_l52
  exact kp_loop (fun v => v.2.2.2.2.2.1) (fun k_ hk_ v hv_ => w_fX12_fits_s52 _ _ _ _ _ _ _ _ _ _ _ _ _ _ hk29 hk_ hv_) h_g
theorem w_fX12_fits_s29 (g0 : gT) (fu : Nat) (v1 : Int32) (k29 : Int32 × Int32 × Int32 × Int32 × Int32 × gT × lT → Option ((Int32) × zS)) (v2 : Int32) (v3 : Int32) (v4 : Int32) (v5 : Int32) (v6 : Int32) (g : gT) (L : lT) (hk29 : ∀ v : Int32 × Int32 × Int32 × Int32 × Int32 × gT × lT, FW wA_fX12_fits wB_fX12_fits g0 (v.2.2.2.2.2.1) → Kp wA_fX12_fits wB_fX12_fits g0 (k29 v)) (h_g : FW wA_fX12_fits wB_fX12_fits g0 g) : Kp wA_fX12_fits wB_fX12_fits g0 (fX12_fits_s29 fu v1 k29 v2 v3 v4 v5 v6 g L) := by
  unfold fX12_fits_s29
  refine kp_ite ?_ ?_
  ·
    refine kp_ite ?_ ?_
    ·
      exact w_fX12_fits_p177 _ _ _ _ _ h_g
    ·
      refine kp_ite ?_ ?_
      ·
        exact w_fX12_fits_p177 _ _ _ _ _ h_g
      ·
        refine kp_ite ?_ ?_
        ·
          exact w_fX12_fits_p177 _ _ _ _ _ h_g
        ·
          exact w_fX12_fits_p177 _ _ _ _ _ h_g
  ·
    refine kp_ck ?_
    refine kp_lti (fun x11 => ?_)
    exact w_fX12_fits_l52 _ _ _ _ _ _ _ _ _ _ _ _ _ hk29 h_g
theorem w_fX12_fits_l29 (g0 : gT) (fu : Nat) (v1 : Int32) (v2 : Int32) (v3 : Int32) (v4 : Int32) (v5 : Int32) (v6 : Int32) (g : gT) (L : lT) (h_g : FW wA_fX12_fits wB_fX12_fits g0 g) : Kp wA_fX12_fits wB_fX12_fits g0 (fX12_fits_l29 fu v1 v2 v3 v4 v5 v6 g L) := by
  unfold fX12_fits_l29
  exact kp_loop (fun v => v.2.2.2.2.2.1) (fun k_ hk_ v hv_ => w_fX12_fits_s29 _ _ _ _ _ _ _ _ _ _ _ hk_ hv_) h_g
theorem w_fX12_fits (g0 : gT) (fu : Nat) (p1 : Int32) (g : gT) (L : lT) (h_g : FW wA_fX12_fits wB_fX12_fits g0 g) : Kp wA_fX12_fits wB_fX12_fits g0 (fX12_fits fu p1 g L) := by
  unfold fX12_fits
  refine kp_stF (by decide) h_g (fun g1 h_g1 => ?_)
  refine kp_cb (w_fX12_isWhat _ _ _ _ _ _ FW.refl) rfl rfl h_g1 (fun x2 g3 L4 h_g3 => ?_)
  refine kp_ite ?_ ?_
  ·
    exact kp_some h_g3
  ·
    exact w_fX12_fits_l29 _ _ _ _ _ _ _ _ _ _ h_g3
abbrev wA_fX12_ways : List (Nat × Nat) := [(0, 79)]
abbrev wB_fX12_ways : List Nat := [29, 30, 31, 32, 33, 34, 35, 44, 45, 46, 47]
theorem w_fX12_ways_p155 (g0 : gT) (fu : Nat) (k11 : Int32 × gT × lT → Option ((Unit) × zS)) (k21 : Int32 × gT × lT → Option ((Unit) × zS)) (v1 : Int32) (v2 : Int32) (g : gT) (L : lT) (hk11 : ∀ v : Int32 × gT × lT, FW wA_fX12_ways wB_fX12_ways g0 (v.2.1) → Kp wA_fX12_ways wB_fX12_ways g0 (k11 v)) (hk21 : ∀ v : Int32 × gT × lT, FW wA_fX12_ways wB_fX12_ways g0 (v.2.1) → Kp wA_fX12_ways wB_fX12_ways g0 (k21 v)) (h_g : FW wA_fX12_ways wB_fX12_ways g0 g) : Kp wA_fX12_ways wB_fX12_ways g0 (fX12_ways_p155 fu k11 k21 v1 v2 g L) := by
  unfold fX12_ways_p155
  exact hk21 _ h_g
theorem w_fX12_ways_p144 (g0 : gT) (fu : Nat) (k11 : Int32 × gT × lT → Option ((Unit) × zS)) (k21 : Int32 × gT × lT → Option ((Unit) × zS)) (v1 : Int32) (v2 : Int32) (t0 : Int32) (t1 : Int32) (g : gT) (L : lT) (hk11 : ∀ v : Int32 × gT × lT, FW wA_fX12_ways wB_fX12_ways g0 (v.2.1) → Kp wA_fX12_ways wB_fX12_ways g0 (k11 v)) (hk21 : ∀ v : Int32 × gT × lT, FW wA_fX12_ways wB_fX12_ways g0 (v.2.1) → Kp wA_fX12_ways wB_fX12_ways g0 (k21 v)) (h_g : FW wA_fX12_ways wB_fX12_ways g0 g) : Kp wA_fX12_ways wB_fX12_ways g0 (fX12_ways_p144 fu k11 k21 v1 v2 t0 t1 g L) := by
  unfold fX12_ways_p144
  refine kp_ck ?_
  refine kp_stB (by decide) h_g (fun g21 h_g21 => ?_)
  refine kp_stF (by decide) h_g21 (fun g22 h_g22 => ?_)
  exact w_fX12_ways_p155 _ _ _ _ _ _ _ _ hk11 hk21 h_g22
theorem w_fX12_ways_s21 (g0 : gT) (fu : Nat) (k11 : Int32 × gT × lT → Option ((Unit) × zS)) (v1 : Int32) (k21 : Int32 × gT × lT → Option ((Unit) × zS)) (v2 : Int32) (g : gT) (L : lT) (hk11 : ∀ v : Int32 × gT × lT, FW wA_fX12_ways wB_fX12_ways g0 (v.2.1) → Kp wA_fX12_ways wB_fX12_ways g0 (k11 v)) (hk21 : ∀ v : Int32 × gT × lT, FW wA_fX12_ways wB_fX12_ways g0 (v.2.1) → Kp wA_fX12_ways wB_fX12_ways g0 (k21 v)) (h_g : FW wA_fX12_ways wB_fX12_ways g0 g) : Kp wA_fX12_ways wB_fX12_ways g0 (fX12_ways_s21 fu k11 v1 k21 v2 g L) := by
  unfold fX12_ways_s21
  refine kp_ck ?_
  refine kp_ite ?_ ?_
  ·
    exact hk11 _ h_g
  ·
    refine kp_ck ?_
    refine kp_lti (fun x8 => ?_)
    refine kp_ck ?_
    refine kp_ck ?_
    refine kp_cb (w_fX12_isStair _ _ _ _ _ _ FW.refl) rfl rfl h_g (fun x9 g10 L11 h_g10 => ?_)
    refine kp_ite ?_ ?_
    ·
      exact w_fX12_ways_p155 _ _ _ _ _ _ _ _ hk11 hk21 h_g10
    ·
      refine kp_ck ?_
      refine kp_stB (by decide) h_g10 (fun g14 h_g14 => ?_)
      refine kp_ck ?_
      refine kp_ck ?_
      refine kp_stB (by decide) h_g14 (fun g15 h_g15 => ?_)
      refine kp_cb (w_fX12_way _ _ _ _ _ _ FW.refl) rfl rfl h_g15 (fun x16 g17 L18 h_g17 => ?_)
      refine kp_ck ?_
      refine kp_stB (by decide) h_g17 (fun g20 h_g20 => ?_)
      refine kp_ck ?_
      refine kp_ck ?_
      refine kp_ite ?_ ?_
      ·
        exact w_fX12_ways_p144 _ _ _ _ _ _ _ _ _ _ hk11 hk21 h_g20
      ·
        exact w_fX12_ways_p144 _ _ _ _ _ _ _ _ _ _ hk11 hk21 h_g20
theorem w_fX12_ways_l21 (g0 : gT) (fu : Nat) (k11 : Int32 × gT × lT → Option ((Unit) × zS)) (v1 : Int32) (v2 : Int32) (g : gT) (L : lT) (hk11 : ∀ v : Int32 × gT × lT, FW wA_fX12_ways wB_fX12_ways g0 (v.2.1) → Kp wA_fX12_ways wB_fX12_ways g0 (k11 v)) (h_g : FW wA_fX12_ways wB_fX12_ways g0 g) : Kp wA_fX12_ways wB_fX12_ways g0 (fX12_ways_l21 fu k11 v1 v2 g L) := by
  unfold fX12_ways_l21
  exact kp_loop (fun v => v.2.1) (fun k_ hk_ v hv_ => w_fX12_ways_s21 _ _ _ _ _ _ _ _ hk11 hk_ hv_) h_g
theorem w_fX12_ways_s11 (g0 : gT) (fu : Nat) (k11 : Int32 × gT × lT → Option ((Unit) × zS)) (v1 : Int32) (g : gT) (L : lT) (hk11 : ∀ v : Int32 × gT × lT, FW wA_fX12_ways wB_fX12_ways g0 (v.2.1) → Kp wA_fX12_ways wB_fX12_ways g0 (k11 v)) (h_g : FW wA_fX12_ways wB_fX12_ways g0 g) : Kp wA_fX12_ways wB_fX12_ways g0 (fX12_ways_s11 fu k11 v1 g L) := by
  unfold fX12_ways_s11
  refine kp_ite ?_ ?_
  ·
    exact kp_some h_g
  ·
    exact w_fX12_ways_l21 _ _ _ _ _ _ _ hk11 h_g
theorem w_fX12_ways_l11 (g0 : gT) (fu : Nat) (v1 : Int32) (g : gT) (L : lT) (h_g : FW wA_fX12_ways wB_fX12_ways g0 g) : Kp wA_fX12_ways wB_fX12_ways g0 (fX12_ways_l11 fu v1 g L) := by
  unfold fX12_ways_l11
  exact kp_loop (fun v => v.2.1) (fun k_ hk_ v hv_ => w_fX12_ways_s11 _ _ _ _ _ _ hk_ hv_) h_g
theorem w_fX12_ways (g0 : gT) (fu : Nat) (g : gT) (L : lT) (h_g : FW wA_fX12_ways wB_fX12_ways g0 g) : Kp wA_fX12_ways wB_fX12_ways g0 (fX12_ways fu g L) := by
  unfold fX12_ways
  refine kp_cb (w_fX12_works0 _ _ _ _ FW.refl) rfl rfl h_g (fun x1 g2 L3 h_g2 => ?_)
  refine kp_stF (by decide) h_g2 (fun g5 h_g5 => ?_)
  exact w_fX12_ways_l11 _ _ _ _ _ h_g5
abbrev wA_fX12_streams : List (Nat × Nat) := [(0, 0), (0, 79)]
abbrev wB_fX12_streams : List Nat := [29, 30, 31, 32, 33, 34, 35, 44, 45, 46, 47]
theorem w_fX12_streams_p103 (g0 : gT) (fu : Nat) (k13 : Int32 × Int32 × gT × lT → Option ((Int32) × zS)) (k25 : Int32 × Int32 × gT × lT → Option ((Int32) × zS)) (v1 : Int32) (v2 : Int32) (v3 : Int32) (g : gT) (L : lT) (hk13 : ∀ v : Int32 × Int32 × gT × lT, FW wA_fX12_streams wB_fX12_streams g0 (v.2.2.1) → Kp wA_fX12_streams wB_fX12_streams g0 (k13 v)) (hk25 : ∀ v : Int32 × Int32 × gT × lT, FW wA_fX12_streams wB_fX12_streams g0 (v.2.2.1) → Kp wA_fX12_streams wB_fX12_streams g0 (k25 v)) (h_g : FW wA_fX12_streams wB_fX12_streams g0 g) : Kp wA_fX12_streams wB_fX12_streams g0 (fX12_streams_p103 fu k13 k25 v1 v2 v3 g L) := by
  unfold fX12_streams_p103
  exact hk25 _ h_g
theorem w_fX12_streams_p101 (g0 : gT) (fu : Nat) (k13 : Int32 × Int32 × gT × lT → Option ((Int32) × zS)) (k25 : Int32 × Int32 × gT × lT → Option ((Int32) × zS)) (v2 : Int32) (v3 : Int32) (t0 : Int32) (t1 : Int32) (g : gT) (L : lT) (hk13 : ∀ v : Int32 × Int32 × gT × lT, FW wA_fX12_streams wB_fX12_streams g0 (v.2.2.1) → Kp wA_fX12_streams wB_fX12_streams g0 (k13 v)) (hk25 : ∀ v : Int32 × Int32 × gT × lT, FW wA_fX12_streams wB_fX12_streams g0 (v.2.2.1) → Kp wA_fX12_streams wB_fX12_streams g0 (k25 v)) (h_g : FW wA_fX12_streams wB_fX12_streams g0 g) : Kp wA_fX12_streams wB_fX12_streams g0 (fX12_streams_p101 fu k13 k25 v2 v3 t0 t1 g L) := by
  unfold fX12_streams_p101
  refine kp_lti (fun x10 => ?_)
  exact w_fX12_streams_p103 _ _ _ _ _ _ _ _ _ hk13 hk25 h_g
theorem w_fX12_streams_p100 (g0 : gT) (fu : Nat) (k13 : Int32 × Int32 × gT × lT → Option ((Int32) × zS)) (k25 : Int32 × Int32 × gT × lT → Option ((Int32) × zS)) (v2 : Int32) (v3 : Int32) (t0 : Int32) (g : gT) (L : lT) (hk13 : ∀ v : Int32 × Int32 × gT × lT, FW wA_fX12_streams wB_fX12_streams g0 (v.2.2.1) → Kp wA_fX12_streams wB_fX12_streams g0 (k13 v)) (hk25 : ∀ v : Int32 × Int32 × gT × lT, FW wA_fX12_streams wB_fX12_streams g0 (v.2.2.1) → Kp wA_fX12_streams wB_fX12_streams g0 (k25 v)) (h_g : FW wA_fX12_streams wB_fX12_streams g0 g) : Kp wA_fX12_streams wB_fX12_streams g0 (fX12_streams_p100 fu k13 k25 v2 v3 t0 g L) := by
  unfold fX12_streams_p100
  exact w_fX12_streams_p101 _ _ _ _ _ _ _ _ _ _ hk13 hk25 h_g
theorem w_fX12_streams_s25 (g0 : gT) (fu : Nat) (k13 : Int32 × Int32 × gT × lT → Option ((Int32) × zS)) (v2 : Int32) (k25 : Int32 × Int32 × gT × lT → Option ((Int32) × zS)) (v1 : Int32) (v3 : Int32) (g : gT) (L : lT) (hk13 : ∀ v : Int32 × Int32 × gT × lT, FW wA_fX12_streams wB_fX12_streams g0 (v.2.2.1) → Kp wA_fX12_streams wB_fX12_streams g0 (k13 v)) (hk25 : ∀ v : Int32 × Int32 × gT × lT, FW wA_fX12_streams wB_fX12_streams g0 (v.2.2.1) → Kp wA_fX12_streams wB_fX12_streams g0 (k25 v)) (h_g : FW wA_fX12_streams wB_fX12_streams g0 g) : Kp wA_fX12_streams wB_fX12_streams g0 (fX12_streams_s25 fu k13 v2 k25 v1 v3 g L) := by
  unfold fX12_streams_s25
  refine kp_ite ?_ ?_
  ·
    exact hk13 _ h_g
  ·
    refine kp_ck ?_
    refine kp_ck ?_
    refine kp_ite ?_ ?_
    ·
      exact w_fX12_streams_p103 _ _ _ _ _ _ _ _ _ hk13 hk25 h_g
    ·
      refine kp_ck ?_
      refine kp_ck ?_
      refine kp_ck ?_
      refine kp_ite ?_ ?_
      ·
        exact w_fX12_streams_p100 _ _ _ _ _ _ _ _ _ hk13 hk25 h_g
      ·
        refine kp_ck ?_
        refine kp_ck ?_
        refine kp_ck ?_
        refine kp_ite ?_ ?_
        ·
          exact w_fX12_streams_p100 _ _ _ _ _ _ _ _ _ hk13 hk25 h_g
        ·
          exact w_fX12_streams_p101 _ _ _ _ _ _ _ _ _ _ hk13 hk25 h_g
theorem w_fX12_streams_l25 (g0 : gT) (fu : Nat) (k13 : Int32 × Int32 × gT × lT → Option ((Int32) × zS)) (v2 : Int32) (v1 : Int32) (v3 : Int32) (g : gT) (L : lT) (hk13 : ∀ v : Int32 × Int32 × gT × lT, FW wA_fX12_streams wB_fX12_streams g0 (v.2.2.1) → Kp wA_fX12_streams wB_fX12_streams g0 (k13 v)) (h_g : FW wA_fX12_streams wB_fX12_streams g0 g) : Kp wA_fX12_streams wB_fX12_streams g0 (fX12_streams_l25 fu k13 v2 v1 v3 g L) := by
  unfold fX12_streams_l25
  exact kp_loop (fun v => v.2.2.1) (fun k_ hk_ v hv_ => w_fX12_streams_s25 _ _ _ _ _ _ _ _ _ hk13 hk_ hv_) h_g
theorem w_fX12_streams_s13 (g0 : gT) (fu : Nat) (k13 : Int32 × Int32 × gT × lT → Option ((Int32) × zS)) (v1 : Int32) (v2 : Int32) (g : gT) (L : lT) (hk13 : ∀ v : Int32 × Int32 × gT × lT, FW wA_fX12_streams wB_fX12_streams g0 (v.2.2.1) → Kp wA_fX12_streams wB_fX12_streams g0 (k13 v)) (h_g : FW wA_fX12_streams wB_fX12_streams g0 g) : Kp wA_fX12_streams wB_fX12_streams g0 (fX12_streams_s13 fu k13 v1 v2 g L) := by
  unfold fX12_streams_s13
  refine kp_ite ?_ ?_
  ·
    exact kp_some h_g
  ·
    refine kp_lti (fun x7 => ?_)
    exact w_fX12_streams_l25 _ _ _ _ _ _ _ _ hk13 h_g
theorem w_fX12_streams_l13 (g0 : gT) (fu : Nat) (v1 : Int32) (v2 : Int32) (g : gT) (L : lT) (h_g : FW wA_fX12_streams wB_fX12_streams g0 g) : Kp wA_fX12_streams wB_fX12_streams g0 (fX12_streams_l13 fu v1 v2 g L) := by
  unfold fX12_streams_l13
  exact kp_loop (fun v => v.2.2.1) (fun k_ hk_ v hv_ => w_fX12_streams_s13 _ _ _ _ _ _ _ hk_ hv_) h_g
theorem w_fX12_streams (g0 : gT) (fu : Nat) (g : gT) (L : lT) (h_g : FW wA_fX12_streams wB_fX12_streams g0 g) : Kp wA_fX12_streams wB_fX12_streams g0 (fX12_streams fu g L) := by
  unfold fX12_streams
  refine kp_stF (by decide) h_g (fun g1 h_g1 => ?_)
  refine kp_cb (w_fX12_ways _ _ _ _ FW.refl) rfl rfl h_g1 (fun x2 g3 L4 h_g3 => ?_)
  exact w_fX12_streams_l13 _ _ _ _ _ _ h_g3
abbrev wA_fX12_onStair : List (Nat × Nat) := []
abbrev wB_fX12_onStair : List Nat := []
theorem w_fX12_onStair_p55 (g0 : gT) (fu : Nat) (k4 : Int32 × Int32 × gT × lT → Option ((Int32) × zS)) (v1 : Int32) (v3 : Int32) (t0 : Int32) (t1 : Int32) (g : gT) (L : lT) (hk4 : ∀ v : Int32 × Int32 × gT × lT, FW wA_fX12_onStair wB_fX12_onStair g0 (v.2.2.1) → Kp wA_fX12_onStair wB_fX12_onStair g0 (k4 v)) (h_g : FW wA_fX12_onStair wB_fX12_onStair g0 g) : Kp wA_fX12_onStair wB_fX12_onStair g0 (fX12_onStair_p55 fu k4 v1 v3 t0 t1 g L) := by
  unfold fX12_onStair_p55
  refine kp_lti (fun x2 => ?_)
  exact hk4 _ h_g
theorem w_fX12_onStair_p54 (g0 : gT) (fu : Nat) (k4 : Int32 × Int32 × gT × lT → Option ((Int32) × zS)) (v1 : Int32) (v3 : Int32) (t0 : Int32) (g : gT) (L : lT) (hk4 : ∀ v : Int32 × Int32 × gT × lT, FW wA_fX12_onStair wB_fX12_onStair g0 (v.2.2.1) → Kp wA_fX12_onStair wB_fX12_onStair g0 (k4 v)) (h_g : FW wA_fX12_onStair wB_fX12_onStair g0 g) : Kp wA_fX12_onStair wB_fX12_onStair g0 (fX12_onStair_p54 fu k4 v1 v3 t0 g L) := by
  unfold fX12_onStair_p54
  exact w_fX12_onStair_p55 _ _ _ _ _ _ _ _ _ hk4 h_g
theorem w_fX12_onStair_s4 (g0 : gT) (fu : Nat) (v1 : Int32) (k4 : Int32 × Int32 × gT × lT → Option ((Int32) × zS)) (v2 : Int32) (v3 : Int32) (g : gT) (L : lT) (hk4 : ∀ v : Int32 × Int32 × gT × lT, FW wA_fX12_onStair wB_fX12_onStair g0 (v.2.2.1) → Kp wA_fX12_onStair wB_fX12_onStair g0 (k4 v)) (h_g : FW wA_fX12_onStair wB_fX12_onStair g0 g) : Kp wA_fX12_onStair wB_fX12_onStair g0 (fX12_onStair_s4 fu v1 k4 v2 v3 g L) := by
  unfold fX12_onStair_s4
  refine kp_ite ?_ ?_
  ·
    exact kp_some h_g
  ·
    refine kp_ck ?_
    refine kp_ite ?_ ?_
    ·
      exact w_fX12_onStair_p54 _ _ _ _ _ _ _ _ hk4 h_g
    ·
      refine kp_ck ?_
      refine kp_ck ?_
      refine kp_ite ?_ ?_
      ·
        exact w_fX12_onStair_p54 _ _ _ _ _ _ _ _ hk4 h_g
      ·
        refine kp_ck ?_
        refine kp_ck ?_
        exact w_fX12_onStair_p55 _ _ _ _ _ _ _ _ _ hk4 h_g
theorem w_fX12_onStair_l4 (g0 : gT) (fu : Nat) (v1 : Int32) (v2 : Int32) (v3 : Int32) (g : gT) (L : lT) (h_g : FW wA_fX12_onStair wB_fX12_onStair g0 g) : Kp wA_fX12_onStair wB_fX12_onStair g0 (fX12_onStair_l4 fu v1 v2 v3 g L) := by
  unfold fX12_onStair_l4
  exact kp_loop (fun v => v.2.2.1) (fun k_ hk_ v hv_ => w_fX12_onStair_s4 _ _ _ _ _ _ _ _ hk_ hv_) h_g
theorem w_fX12_onStair (g0 : gT) (fu : Nat) (p1 : Int32) (g : gT) (L : lT) (h_g : FW wA_fX12_onStair wB_fX12_onStair g0 g) : Kp wA_fX12_onStair wB_fX12_onStair g0 (fX12_onStair fu p1 g L) := by
  unfold fX12_onStair
  exact w_fX12_onStair_l4 _ _ _ _ _ _ _ h_g
abbrev wA_fX12_on : List (Nat × Nat) := [(0, 0), (0, 79)]
abbrev wB_fX12_on : List Nat := [29, 30, 31, 32, 33, 34, 35, 44, 45, 46, 47]
theorem w_fX12_on_p30 (g0 : gT) (fu : Nat) (g : gT) (L : lT) (h_g : FW wA_fX12_on wB_fX12_on g0 g) : Kp wA_fX12_on wB_fX12_on g0 (fX12_on_p30 fu g L) := by
  unfold fX12_on_p30
  exact kp_some h_g
theorem w_fX12_on_p92 (g0 : gT) (fu : Nat) (k52 : Int32 × Int32 × gT × lT → Option ((Int32) × zS)) (v1 : Int32) (v4 : Int32) (t0 : Int32) (t1 : Int32) (g : gT) (L : lT) (hk52 : ∀ v : Int32 × Int32 × gT × lT, FW wA_fX12_on wB_fX12_on g0 (v.2.2.1) → Kp wA_fX12_on wB_fX12_on g0 (k52 v)) (h_g : FW wA_fX12_on wB_fX12_on g0 g) : Kp wA_fX12_on wB_fX12_on g0 (fX12_on_p92 fu k52 v1 v4 t0 t1 g L) := by
  unfold fX12_on_p92
  refine kp_lti (fun x22 => ?_)
  exact hk52 _ h_g
theorem w_fX12_on_p91 (g0 : gT) (fu : Nat) (k52 : Int32 × Int32 × gT × lT → Option ((Int32) × zS)) (v1 : Int32) (v4 : Int32) (t0 : Int32) (g : gT) (L : lT) (hk52 : ∀ v : Int32 × Int32 × gT × lT, FW wA_fX12_on wB_fX12_on g0 (v.2.2.1) → Kp wA_fX12_on wB_fX12_on g0 (k52 v)) (h_g : FW wA_fX12_on wB_fX12_on g0 g) : Kp wA_fX12_on wB_fX12_on g0 (fX12_on_p91 fu k52 v1 v4 t0 g L) := by
  unfold fX12_on_p91
  exact w_fX12_on_p92 _ _ _ _ _ _ _ _ _ hk52 h_g
theorem w_fX12_on_s52 (g0 : gT) (fu : Nat) (v1 : Int32) (k52 : Int32 × Int32 × gT × lT → Option ((Int32) × zS)) (v3 : Int32) (v4 : Int32) (g : gT) (L : lT) (hk52 : ∀ v : Int32 × Int32 × gT × lT, FW wA_fX12_on wB_fX12_on g0 (v.2.2.1) → Kp wA_fX12_on wB_fX12_on g0 (k52 v)) (h_g : FW wA_fX12_on wB_fX12_on g0 g) : Kp wA_fX12_on wB_fX12_on g0 (fX12_on_s52 fu v1 k52 v3 v4 g L) := by
  unfold fX12_on_s52
  refine kp_ite ?_ ?_
  ·
    exact kp_some h_g
  ·
    refine kp_ck ?_
    refine kp_ite ?_ ?_
    ·
      exact w_fX12_on_p91 _ _ _ _ _ _ _ _ hk52 h_g
    ·
      refine kp_ck ?_
      refine kp_ite ?_ ?_
      ·
        exact w_fX12_on_p91 _ _ _ _ _ _ _ _ hk52 h_g
      ·
        exact w_fX12_on_p92 _ _ _ _ _ _ _ _ _ hk52 h_g
theorem w_fX12_on_l52 (g0 : gT) (fu : Nat) (v1 : Int32) (v3 : Int32) (v4 : Int32) (g : gT) (L : lT) (h_g : FW wA_fX12_on wB_fX12_on g0 g) : Kp wA_fX12_on wB_fX12_on g0 (fX12_on_l52 fu v1 v3 v4 g L) := by
  unfold fX12_on_l52
  exact kp_loop (fun v => v.2.2.1) (fun k_ hk_ v hv_ => w_fX12_on_s52 _ _ _ _ _ _ _ _ hk_ hv_) h_g
theorem w_fX12_on (g0 : gT) (fu : Nat) (p1 : Int32) (p2 : Int32) (g : gT) (L : lT) (h_g : FW wA_fX12_on wB_fX12_on g0 g) : Kp wA_fX12_on wB_fX12_on g0 (fX12_on fu p1 p2 g L) := by
  unfold fX12_on
  refine kp_stF (by decide) h_g (fun g1 h_g1 => ?_)
  refine kp_cb (w_fX12_isWhat _ _ _ _ _ _ FW.refl) rfl rfl h_g1 (fun x2 g3 L4 h_g3 => ?_)
  refine kp_ite ?_ ?_
  ·
    exact w_fX12_on_p30 _ _ _ _ h_g3
  ·
    refine kp_cb (w_fX12_within _ _ _ _ _ _ _ FW.refl) rfl rfl h_g3 (fun x7 g8 L9 h_g8 => ?_)
    refine kp_cb (w_fX12_right _ _ _ _ _ _ FW.refl) rfl rfl h_g8 (fun x11 g12 L13 h_g12 => ?_)
    refine kp_ite ?_ ?_
    ·
      exact w_fX12_on_p30 _ _ _ _ h_g12
    ·
      refine kp_cb (w_fX12_ways _ _ _ _ FW.refl) rfl rfl h_g12 (fun x16 g17 L18 h_g17 => ?_)
      refine kp_ite ?_ ?_
      ·
        refine kp_cb (w_fX12_onStair _ _ _ _ _ FW.refl) rfl rfl h_g17 (fun x25 g26 L27 h_g26 => ?_)
        exact kp_some h_g26
      ·
        exact w_fX12_on_l52 _ _ _ _ _ _ _ h_g17
