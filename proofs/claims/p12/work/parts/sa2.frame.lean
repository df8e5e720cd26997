/-! ===== frames ===== -/
abbrev wA_fX12_busiest : List (Nat × Nat) := [(0, 0), (0, 79)]
abbrev wB_fX12_busiest : List Nat := [29, 30, 31, 32, 33, 34, 35, 44, 45, 46, 47]
theorem w_fX12_busiest_p106 (g0 : gT) (fu : Nat) (t0 : Int32) (g : gT) (L : lT) (h_g : FW wA_fX12_busiest wB_fX12_busiest g0 g) : Kp wA_fX12_busiest wB_fX12_busiest g0 (fX12_busiest_p106 fu t0 g L) := by
  unfold fX12_busiest_p106
  exact kp_some h_g
theorem w_fX12_busiest_p91 (g0 : gT) (fu : Nat) (k27 : Int32 × Int32 × Int32 × gT × lT → Option ((Int32) × zS)) (v1 : Int32) (v2 : Int32) (v3 : Int32) (v4 : Int32) (g : gT) (L : lT) (hk27 : ∀ v : Int32 × Int32 × Int32 × gT × lT, FW wA_fX12_busiest wB_fX12_busiest g0 (v.2.2.2.1) → Kp wA_fX12_busiest wB_fX12_busiest g0 (k27 v)) (h_g : FW wA_fX12_busiest wB_fX12_busiest g0 g) : Kp wA_fX12_busiest wB_fX12_busiest g0 (fX12_busiest_p91 fu k27 v1 v2 v3 v4 g L) := by
  unfold fX12_busiest_p91
  exact hk27 _ h_g
theorem w_fX12_busiest_p80 (g0 : gT) (fu : Nat) (k27 : Int32 × Int32 × Int32 × gT × lT → Option ((Int32) × zS)) (v1 : Int32) (v4 : Int32) (v5 : Int32) (g : gT) (L : lT) (hk27 : ∀ v : Int32 × Int32 × Int32 × gT × lT, FW wA_fX12_busiest wB_fX12_busiest g0 (v.2.2.2.1) → Kp wA_fX12_busiest wB_fX12_busiest g0 (k27 v)) (h_g : FW wA_fX12_busiest wB_fX12_busiest g0 g) : Kp wA_fX12_busiest wB_fX12_busiest g0 (fX12_busiest_p80 fu k27 v1 v4 v5 g L) := by
  unfold fX12_busiest_p80
  refine kp_ck ?_
  refine kp_lti (fun x18 => ?_)
  exact w_fX12_busiest_p91 _ _ _ _ _ _ _ _ _ hk27 h_g
theorem w_fX12_busiest_s27 (g0 : gT) (fu : Nat) (v1 : Int32) (k27 : Int32 × Int32 × Int32 × gT × lT → Option ((Int32) × zS)) (v2 : Int32) (v3 : Int32) (v4 : Int32) (g : gT) (L : lT) (hk27 : ∀ v : Int32 × Int32 × Int32 × gT × lT, FW wA_fX12_busiest wB_fX12_busiest g0 (v.2.2.2.1) → Kp wA_fX12_busiest wB_fX12_busiest g0 (k27 v)) (h_g : FW wA_fX12_busiest wB_fX12_busiest g0 g) : Kp wA_fX12_busiest wB_fX12_busiest g0 (fX12_busiest_s27 fu v1 k27 v2 v3 v4 g L) := by
  unfold fX12_busiest_s27
  refine kp_ite ?_ ?_
  ·
    refine kp_ite ?_ ?_
    ·
      exact w_fX12_busiest_p106 _ _ _ _ _ h_g
    ·
      exact w_fX12_busiest_p106 _ _ _ _ _ h_g
  ·
    refine kp_ck ?_
    refine kp_cb (w_fX12_onStair _ _ _ _ _ FW.refl) rfl rfl h_g (fun x13 g14 L15 h_g14 => ?_)
    refine kp_ite ?_ ?_
    ·
      exact w_fX12_busiest_p91 _ _ _ _ _ _ _ _ _ hk27 h_g14
    ·
      refine kp_ite ?_ ?_
      ·
        refine kp_ite ?_ ?_
        ·
          exact w_fX12_busiest_p80 _ _ _ _ _ _ _ _ hk27 h_g14
        ·
          refine kp_ck ?_
          refine kp_ite ?_ ?_
          ·
            exact w_fX12_busiest_p80 _ _ _ _ _ _ _ _ hk27 h_g14
          ·
            exact w_fX12_busiest_p91 _ _ _ _ _ _ _ _ _ hk27 h_g14
      ·
        exact w_fX12_busiest_p80 _ _ _ _ _ _ _ _ hk27 h_g14
theorem w_fX12_busiest_l27 (g0 : gT) (fu : Nat) (v1 : Int32) (v2 : Int32) (v3 : Int32) (v4 : Int32) (g : gT) (L : lT) (h_g : FW wA_fX12_busiest wB_fX12_busiest g0 g) : Kp wA_fX12_busiest wB_fX12_busiest g0 (fX12_busiest_l27 fu v1 v2 v3 v4 g L) := by
  unfold fX12_busiest_l27
  exact kp_loop (fun v => v.2.2.2.1) (fun k_ hk_ v hv_ => w_fX12_busiest_s27 _ _ _ _ _ _ _ _ _ hk_ hv_) h_g
theorem w_fX12_busiest (g0 : gT) (fu : Nat) (p1 : Int32) (g : gT) (L : lT) (h_g : FW wA_fX12_busiest wB_fX12_busiest g0 g) : Kp wA_fX12_busiest wB_fX12_busiest g0 (fX12_busiest fu p1 g L) := by
  unfold fX12_busiest
  refine kp_stF (by decide) h_g (fun g1 h_g1 => ?_)
  refine kp_cb (w_fX12_isWhat _ _ _ _ _ _ FW.refl) rfl rfl h_g1 (fun x2 g3 L4 h_g3 => ?_)
  refine kp_ite ?_ ?_
  ·
    exact kp_some h_g3
  ·
    refine kp_cb (w_fX12_ways _ _ _ _ FW.refl) rfl rfl h_g3 (fun x7 g8 L9 h_g8 => ?_)
    exact w_fX12_busiest_l27 _ _ _ _ _ _ _ _ h_g8
abbrev wA_fX12_clash : List (Nat × Nat) := [(0, 0)]
abbrev wB_fX12_clash : List Nat := [29, 30, 31, 32, 33, 34, 35]
theorem w_fX12_clash_p175 (g0 : gT) (fu : Nat) (t0 : Int32) (g : gT) (L : lT) (h_g : FW wA_fX12_clash wB_fX12_clash g0 g) : Kp wA_fX12_clash wB_fX12_clash g0 (fX12_clash_p175 fu t0 g L) := by
  unfold fX12_clash_p175
  exact kp_some h_g
theorem w_fX12_clash_p154 (g0 : gT) (fu : Nat) (k27 : Int32 × Int32 × Int32 × gT × lT → Option ((Int32) × zS)) (k42 : Int32 × Int32 × Int32 × gT × lT → Option ((Int32) × zS)) (v1 : Int32) (v2 : Int32) (v3 : Int32) (v4 : Int32) (v5 : Int32) (g : gT) (L : lT) (hk27 : ∀ v : Int32 × Int32 × Int32 × gT × lT, FW wA_fX12_clash wB_fX12_clash g0 (v.2.2.2.1) → Kp wA_fX12_clash wB_fX12_clash g0 (k27 v)) (hk42 : ∀ v : Int32 × Int32 × Int32 × gT × lT, FW wA_fX12_clash wB_fX12_clash g0 (v.2.2.2.1) → Kp wA_fX12_clash wB_fX12_clash g0 (k42 v)) (h_g : FW wA_fX12_clash wB_fX12_clash g0 g) : Kp wA_fX12_clash wB_fX12_clash g0 (fX12_clash_p154 fu k27 k42 v1 v2 v3 v4 v5 g L) := by
  unfold fX12_clash_p154
  exact hk42 _ h_g
theorem w_fX12_clash_p151 (g0 : gT) (fu : Nat) (k27 : Int32 × Int32 × Int32 × gT × lT → Option ((Int32) × zS)) (k42 : Int32 × Int32 × Int32 × gT × lT → Option ((Int32) × zS)) (v1 : Int32) (v2 : Int32) (v4 : Int32) (v5 : Int32) (v6 : Int32) (g : gT) (L : lT) (hk27 : ∀ v : Int32 × Int32 × Int32 × gT × lT, FW wA_fX12_clash wB_fX12_clash g0 (v.2.2.2.1) → Kp wA_fX12_clash wB_fX12_clash g0 (k27 v)) (hk42 : ∀ v : Int32 × Int32 × Int32 × gT × lT, FW wA_fX12_clash wB_fX12_clash g0 (v.2.2.2.1) → Kp wA_fX12_clash wB_fX12_clash g0 (k42 v)) (h_g : FW wA_fX12_clash wB_fX12_clash g0 g) : Kp wA_fX12_clash wB_fX12_clash g0 (fX12_clash_p151 fu k27 k42 v1 v2 v4 v5 v6 g L) := by
  unfold fX12_clash_p151
  exact w_fX12_clash_p154 _ _ _ _ _ _ _ _ _ _ _ hk27 hk42 h_g
theorem w_fX12_clash_p85 (g0 : gT) (fu : Nat) (k27 : Int32 × Int32 × Int32 × gT × lT → Option ((Int32) × zS)) (k42 : Int32 × Int32 × Int32 × gT × lT → Option ((Int32) × zS)) (v1 : Int32) (v2 : Int32) (v3 : Int32) (v4 : Int32) (v5 : Int32) (t0 : Int32) (g : gT) (L : lT) (hk27 : ∀ v : Int32 × Int32 × Int32 × gT × lT, FW wA_fX12_clash wB_fX12_clash g0 (v.2.2.2.1) → Kp wA_fX12_clash wB_fX12_clash g0 (k27 v)) (hk42 : ∀ v : Int32 × Int32 × Int32 × gT × lT, FW wA_fX12_clash wB_fX12_clash g0 (v.2.2.2.1) → Kp wA_fX12_clash wB_fX12_clash g0 (k42 v)) (h_g : FW wA_fX12_clash wB_fX12_clash g0 g) : Kp wA_fX12_clash wB_fX12_clash g0 (fX12_clash_p85 fu k27 k42 v1 v2 v3 v4 v5 t0 g L) := by
  unfold fX12_clash_p85
  refine kp_ck ?_
  refine kp_ck ?_
  refine kp_ite ?_ ?_
  ·
    refine kp_ck ?_
    refine kp_ite ?_ ?_
    ·
      exact w_fX12_clash_p154 _ _ _ _ _ _ _ _ _ _ _ hk27 hk42 h_g
    ·
      refine kp_ck ?_
      refine kp_ite ?_ ?_
      ·
        refine kp_ite ?_ ?_
        ·
          exact w_fX12_clash_p151 _ _ _ _ _ _ _ _ _ _ _ hk27 hk42 h_g
        ·
          refine kp_ite ?_ ?_
          ·
            exact w_fX12_clash_p154 _ _ _ _ _ _ _ _ _ _ _ hk27 hk42 h_g
          ·
            exact w_fX12_clash_p151 _ _ _ _ _ _ _ _ _ _ _ hk27 hk42 h_g
      ·
        exact w_fX12_clash_p154 _ _ _ _ _ _ _ _ _ _ _ hk27 hk42 h_g
  ·
    exact w_fX12_clash_p154 _ _ _ _ _ _ _ _ _ _ _ hk27 hk42 h_g
theorem w_fX12_clash_s42 (g0 : gT) (fu : Nat) (k27 : Int32 × Int32 × Int32 × gT × lT → Option ((Int32) × zS)) (v1 : Int32) (v4 : Int32) (k42 : Int32 × Int32 × Int32 × gT × lT → Option ((Int32) × zS)) (v2 : Int32) (v3 : Int32) (v5 : Int32) (g : gT) (L : lT) (hk27 : ∀ v : Int32 × Int32 × Int32 × gT × lT, FW wA_fX12_clash wB_fX12_clash g0 (v.2.2.2.1) → Kp wA_fX12_clash wB_fX12_clash g0 (k27 v)) (hk42 : ∀ v : Int32 × Int32 × Int32 × gT × lT, FW wA_fX12_clash wB_fX12_clash g0 (v.2.2.2.1) → Kp wA_fX12_clash wB_fX12_clash g0 (k42 v)) (h_g : FW wA_fX12_clash wB_fX12_clash g0 g) : Kp wA_fX12_clash wB_fX12_clash g0 (fX12_clash_s42 fu k27 v1 v4 k42 v2 v3 v5 g L) := by
  unfold fX12_clash_s42
  refine kp_ite ?_ ?_
  ·
    exact hk27 _ h_g
  ·
    refine kp_ck ?_
    refine kp_ck ?_
    refine kp_ite ?_ ?_
    ·
      refine kp_ck ?_
      exact w_fX12_clash_p85 _ _ _ _ _ _ _ _ _ _ _ _ hk27 hk42 h_g
    ·
      refine kp_ck ?_
      exact w_fX12_clash_p85 _ _ _ _ _ _ _ _ _ _ _ _ hk27 hk42 h_g
theorem w_fX12_clash_l42 (g0 : gT) (fu : Nat) (k27 : Int32 × Int32 × Int32 × gT × lT → Option ((Int32) × zS)) (v1 : Int32) (v4 : Int32) (v2 : Int32) (v3 : Int32) (v5 : Int32) (g : gT) (L : lT) (hk27 : ∀ v : Int32 × Int32 × Int32 × gT × lT, FW wA_fX12_clash wB_fX12_clash g0 (v.2.2.2.1) → Kp wA_fX12_clash wB_fX12_clash g0 (k27 v)) (h_g : FW wA_fX12_clash wB_fX12_clash g0 g) : Kp wA_fX12_clash wB_fX12_clash g0 (fX12_clash_l42 fu k27 v1 v4 v2 v3 v5 g L) := by
  unfold fX12_clash_l42
  exact kp_loop (fun v => v.2.2.2.1) (fun k_ hk_ v hv_ => w_fX12_clash_s42 _ _ _ _ _ _ _ _ _ _ _ hk27 hk_ hv_) h_g
theorem w_fX12_clash_s27 (g0 : gT) (fu : Nat) (v1 : Int32) (k27 : Int32 × Int32 × Int32 × gT × lT → Option ((Int32) × zS)) (v2 : Int32) (v3 : Int32) (v4 : Int32) (g : gT) (L : lT) (hk27 : ∀ v : Int32 × Int32 × Int32 × gT × lT, FW wA_fX12_clash wB_fX12_clash g0 (v.2.2.2.1) → Kp wA_fX12_clash wB_fX12_clash g0 (k27 v)) (h_g : FW wA_fX12_clash wB_fX12_clash g0 g) : Kp wA_fX12_clash wB_fX12_clash g0 (fX12_clash_s27 fu v1 k27 v2 v3 v4 g L) := by
  unfold fX12_clash_s27
  refine kp_ite ?_ ?_
  ·
    refine kp_ite ?_ ?_
    ·
      exact w_fX12_clash_p175 _ _ _ _ _ h_g
    ·
      exact w_fX12_clash_p175 _ _ _ _ _ h_g
  ·
    refine kp_lti (fun x13 => ?_)
    exact w_fX12_clash_l42 _ _ _ _ _ _ _ _ _ _ hk27 h_g
theorem w_fX12_clash_l27 (g0 : gT) (fu : Nat) (v1 : Int32) (v2 : Int32) (v3 : Int32) (v4 : Int32) (g : gT) (L : lT) (h_g : FW wA_fX12_clash wB_fX12_clash g0 g) : Kp wA_fX12_clash wB_fX12_clash g0 (fX12_clash_l27 fu v1 v2 v3 v4 g L) := by
  unfold fX12_clash_l27
  exact kp_loop (fun v => v.2.2.2.1) (fun k_ hk_ v hv_ => w_fX12_clash_s27 _ _ _ _ _ _ _ _ _ hk_ hv_) h_g
theorem w_fX12_clash (g0 : gT) (fu : Nat) (p1 : Int32) (g : gT) (L : lT) (h_g : FW wA_fX12_clash wB_fX12_clash g0 g) : Kp wA_fX12_clash wB_fX12_clash g0 (fX12_clash fu p1 g L) := by
  unfold fX12_clash
  refine kp_stF (by decide) h_g (fun g1 h_g1 => ?_)
  refine kp_cb (w_fX12_isWhat _ _ _ _ _ _ FW.refl) rfl rfl h_g1 (fun x2 g3 L4 h_g3 => ?_)
  refine kp_ite ?_ ?_
  ·
    exact kp_some h_g3
  ·
    refine kp_cb (w_fX12_works0 _ _ _ _ FW.refl) rfl rfl h_g3 (fun x7 g8 L9 h_g8 => ?_)
    exact w_fX12_clash_l27 _ _ _ _ _ _ _ _ h_g8
abbrev wA_fX12_idle : List (Nat × Nat) := [(0, 0)]
abbrev wB_fX12_idle : List Nat := [29, 30, 31, 32, 33, 34, 35]
theorem w_fX12_idle_p82 (g0 : gT) (fu : Nat) (k13 : Int32 × Int32 × gT × lT → Option ((Int32) × zS)) (k23 : Int32 × Int32 × gT × lT → Option ((Int32) × zS)) (v2 : Int32) (v3 : Int32) (t0 : Int32) (t1 : Int32) (g : gT) (L : lT) (hk13 : ∀ v : Int32 × Int32 × gT × lT, FW wA_fX12_idle wB_fX12_idle g0 (v.2.2.1) → Kp wA_fX12_idle wB_fX12_idle g0 (k13 v)) (hk23 : ∀ v : Int32 × Int32 × gT × lT, FW wA_fX12_idle wB_fX12_idle g0 (v.2.2.1) → Kp wA_fX12_idle wB_fX12_idle g0 (k23 v)) (h_g : FW wA_fX12_idle wB_fX12_idle g0 g) : Kp wA_fX12_idle wB_fX12_idle g0 (fX12_idle_p82 fu k13 k23 v2 v3 t0 t1 g L) := by
  unfold fX12_idle_p82
  refine kp_lti (fun x14 => ?_)
  exact hk23 _ h_g
theorem w_fX12_idle_s23 (g0 : gT) (fu : Nat) (k13 : Int32 × Int32 × gT × lT → Option ((Int32) × zS)) (v2 : Int32) (k23 : Int32 × Int32 × gT × lT → Option ((Int32) × zS)) (v1 : Int32) (v3 : Int32) (g : gT) (L : lT) (hk13 : ∀ v : Int32 × Int32 × gT × lT, FW wA_fX12_idle wB_fX12_idle g0 (v.2.2.1) → Kp wA_fX12_idle wB_fX12_idle g0 (k13 v)) (hk23 : ∀ v : Int32 × Int32 × gT × lT, FW wA_fX12_idle wB_fX12_idle g0 (v.2.2.1) → Kp wA_fX12_idle wB_fX12_idle g0 (k23 v)) (h_g : FW wA_fX12_idle wB_fX12_idle g0 g) : Kp wA_fX12_idle wB_fX12_idle g0 (fX12_idle_s23 fu k13 v2 k23 v1 v3 g L) := by
  unfold fX12_idle_s23
  refine kp_ck ?_
  refine kp_ite ?_ ?_
  ·
    exact hk13 _ h_g
  ·
    refine kp_ck ?_
    refine kp_lti (fun x8 => ?_)
    refine kp_ck ?_
    refine kp_cb (w_fX12_comes _ _ _ _ _ _ FW.refl) rfl rfl h_g (fun x9 g10 L11 h_g10 => ?_)
    refine kp_lti (fun x13 => ?_)
    refine kp_ite ?_ ?_
    ·
      exact w_fX12_idle_p82 _ _ _ _ _ _ _ _ _ _ hk13 hk23 h_g10
    ·
      refine kp_ck ?_
      exact w_fX12_idle_p82 _ _ _ _ _ _ _ _ _ _ hk13 hk23 h_g10
theorem w_fX12_idle_l23 (g0 : gT) (fu : Nat) (k13 : Int32 × Int32 × gT × lT → Option ((Int32) × zS)) (v2 : Int32) (v1 : Int32) (v3 : Int32) (g : gT) (L : lT) (hk13 : ∀ v : Int32 × Int32 × gT × lT, FW wA_fX12_idle wB_fX12_idle g0 (v.2.2.1) → Kp wA_fX12_idle wB_fX12_idle g0 (k13 v)) (h_g : FW wA_fX12_idle wB_fX12_idle g0 g) : Kp wA_fX12_idle wB_fX12_idle g0 (fX12_idle_l23 fu k13 v2 v1 v3 g L) := by
  unfold fX12_idle_l23
  exact kp_loop (fun v => v.2.2.1) (fun k_ hk_ v hv_ => w_fX12_idle_s23 _ _ _ _ _ _ _ _ _ hk13 hk_ hv_) h_g
theorem w_fX12_idle_s13 (g0 : gT) (fu : Nat) (k13 : Int32 × Int32 × gT × lT → Option ((Int32) × zS)) (v1 : Int32) (v2 : Int32) (g : gT) (L : lT) (hk13 : ∀ v : Int32 × Int32 × gT × lT, FW wA_fX12_idle wB_fX12_idle g0 (v.2.2.1) → Kp wA_fX12_idle wB_fX12_idle g0 (k13 v)) (h_g : FW wA_fX12_idle wB_fX12_idle g0 g) : Kp wA_fX12_idle wB_fX12_idle g0 (fX12_idle_s13 fu k13 v1 v2 g L) := by
  unfold fX12_idle_s13
  refine kp_ite ?_ ?_
  ·
    exact kp_some h_g
  ·
    exact w_fX12_idle_l23 _ _ _ _ _ _ _ _ hk13 h_g
theorem w_fX12_idle_l13 (g0 : gT) (fu : Nat) (v1 : Int32) (v2 : Int32) (g : gT) (L : lT) (h_g : FW wA_fX12_idle wB_fX12_idle g0 g) : Kp wA_fX12_idle wB_fX12_idle g0 (fX12_idle_l13 fu v1 v2 g L) := by
  unfold fX12_idle_l13
  exact kp_loop (fun v => v.2.2.1) (fun k_ hk_ v hv_ => w_fX12_idle_s13 _ _ _ _ _ _ _ hk_ hv_) h_g
theorem w_fX12_idle (g0 : gT) (fu : Nat) (g : gT) (L : lT) (h_g : FW wA_fX12_idle wB_fX12_idle g0 g) : Kp wA_fX12_idle wB_fX12_idle g0 (fX12_idle fu g L) := by
  unfold fX12_idle
  refine kp_stF (by decide) h_g (fun g1 h_g1 => ?_)
  refine kp_cb (w_fX12_works0 _ _ _ _ FW.refl) rfl rfl h_g1 (fun x2 g3 L4 h_g3 => ?_)
  exact w_fX12_idle_l13 _ _ _ _ _ _ h_g3
abbrev wA_fX12_draw : List (Nat × Nat) := [(0, 80)]
abbrev wB_fX12_draw : List Nat := []
theorem w_fX12_draw (g0 : gT) (fu : Nat) (p1 : Int32) (g : gT) (L : lT) (h_g : FW wA_fX12_draw wB_fX12_draw g0 g) : Kp wA_fX12_draw wB_fX12_draw g0 (fX12_draw fu p1 g L) := by
  unfold fX12_draw
  refine kp_stF (by decide) h_g (fun g1 h_g1 => ?_)
  refine kp_cnz ?_
  exact kp_some h_g1
abbrev wA_fX12_term : List (Nat × Nat) := [(0, 0), (0, 60), (0, 80)]
abbrev wB_fX12_term : List Nat := [29, 30, 31, 32, 33, 34, 35]
theorem w_fX12_term_p38 (g0 : gT) (fu : Nat) (g : gT) (L : lT) (h_g : FW wA_fX12_term wB_fX12_term g0 g) : Kp wA_fX12_term wB_fX12_term g0 (fX12_term_p38 fu g L) := by
  unfold fX12_term_p38
  exact kp_some h_g
theorem w_fX12_term_p208 (g0 : gT) (fu : Nat) (t0 : Int32) (g : gT) (L : lT) (h_g : FW wA_fX12_term wB_fX12_term g0 g) : Kp wA_fX12_term wB_fX12_term g0 (fX12_term_p208 fu t0 g L) := by
  unfold fX12_term_p208
  exact kp_some h_g
theorem w_fX12_term_p171 (g0 : gT) (fu : Nat) (k57 : Int32 × Int32 × Int32 × Int32 × gT × lT → Option ((Int32) × zS)) (v2 : Int32) (v3 : Int32) (v4 : Int32) (v5 : Int32) (v6 : Int32) (v8 : Int32) (t0 : Int32) (t1 : Int32) (g : gT) (L : lT) (hk57 : ∀ v : Int32 × Int32 × Int32 × Int32 × gT × lT, FW wA_fX12_term wB_fX12_term g0 (v.2.2.2.2.1) → Kp wA_fX12_term wB_fX12_term g0 (k57 v)) (h_g : FW wA_fX12_term wB_fX12_term g0 g) : Kp wA_fX12_term wB_fX12_term g0 (fX12_term_p171 fu k57 v2 v3 v4 v5 v6 v8 t0 t1 g L) := by
  unfold fX12_term_p171
  refine kp_lti (fun x37 => ?_)
  exact hk57 _ h_g
theorem w_fX12_term_p154 (g0 : gT) (fu : Nat) (k57 : Int32 × Int32 × Int32 × Int32 × gT × lT → Option ((Int32) × zS)) (v2 : Int32) (v3 : Int32) (v4 : Int32) (v5 : Int32) (v7 : Int32) (v8 : Int32) (t0 : Int32) (g : gT) (L : lT) (hk57 : ∀ v : Int32 × Int32 × Int32 × Int32 × gT × lT, FW wA_fX12_term wB_fX12_term g0 (v.2.2.2.2.1) → Kp wA_fX12_term wB_fX12_term g0 (k57 v)) (h_g : FW wA_fX12_term wB_fX12_term g0 g) : Kp wA_fX12_term wB_fX12_term g0 (fX12_term_p154 fu k57 v2 v3 v4 v5 v7 v8 t0 g L) := by
  unfold fX12_term_p154
  refine kp_cb (w_fX12_late _ _ _ _ _ FW.refl) rfl rfl h_g (fun x33 g34 L35 h_g34 => ?_)
  refine kp_ite ?_ ?_
  ·
    exact w_fX12_term_p171 _ _ _ _ _ _ _ _ _ _ _ _ _ hk57 h_g34
  ·
    exact w_fX12_term_p171 _ _ _ _ _ _ _ _ _ _ _ _ _ hk57 h_g34
theorem w_fX12_term_p121 (g0 : gT) (fu : Nat) (k57 : Int32 × Int32 × Int32 × Int32 × gT × lT → Option ((Int32) × zS)) (k71 : Int32 × gT × lT → Option ((Int32) × zS)) (v2 : Int32) (v3 : Int32) (v4 : Int32) (v5 : Int32) (v6 : Int32) (v7 : Int32) (v8 : Int32) (v9 : Int32) (g : gT) (L : lT) (hk57 : ∀ v : Int32 × Int32 × Int32 × Int32 × gT × lT, FW wA_fX12_term wB_fX12_term g0 (v.2.2.2.2.1) → Kp wA_fX12_term wB_fX12_term g0 (k57 v)) (hk71 : ∀ v : Int32 × gT × lT, FW wA_fX12_term wB_fX12_term g0 (v.2.1) → Kp wA_fX12_term wB_fX12_term g0 (k71 v)) (h_g : FW wA_fX12_term wB_fX12_term g0 g) : Kp wA_fX12_term wB_fX12_term g0 (fX12_term_p121 fu k57 k71 v2 v3 v4 v5 v6 v7 v8 v9 g L) := by
  unfold fX12_term_p121
  exact hk71 _ h_g
theorem w_fX12_term_s71 (g0 : gT) (fu : Nat) (k57 : Int32 × Int32 × Int32 × Int32 × gT × lT → Option ((Int32) × zS)) (v2 : Int32) (v3 : Int32) (v4 : Int32) (v5 : Int32) (v6 : Int32) (v7 : Int32) (v8 : Int32) (k71 : Int32 × gT × lT → Option ((Int32) × zS)) (v9 : Int32) (g : gT) (L : lT) (hk57 : ∀ v : Int32 × Int32 × Int32 × Int32 × gT × lT, FW wA_fX12_term wB_fX12_term g0 (v.2.2.2.2.1) → Kp wA_fX12_term wB_fX12_term g0 (k57 v)) (hk71 : ∀ v : Int32 × gT × lT, FW wA_fX12_term wB_fX12_term g0 (v.2.1) → Kp wA_fX12_term wB_fX12_term g0 (k71 v)) (h_g : FW wA_fX12_term wB_fX12_term g0 g) : Kp wA_fX12_term wB_fX12_term g0 (fX12_term_s71 fu k57 v2 v3 v4 v5 v6 v7 v8 k71 v9 g L) := by
  unfold fX12_term_s71
  refine kp_ite ?_ ?_
  ·
    refine kp_cb (w_fX12_lost _ _ _ _ FW.refl) rfl rfl h_g (fun x28 g29 L30 h_g29 => ?_)
    refine kp_lti (fun x32 => ?_)
    refine kp_ite ?_ ?_
    ·
      exact w_fX12_term_p154 _ _ _ _ _ _ _ _ _ _ _ _ hk57 h_g29
    ·
      exact w_fX12_term_p154 _ _ _ _ _ _ _ _ _ _ _ _ hk57 h_g29
  ·
    refine kp_ck ?_
    refine kp_ite ?_ ?_
    ·
      exact w_fX12_term_p121 _ _ _ _ _ _ _ _ _ _ _ _ _ _ hk57 hk71 h_g
    ·
      refine kp_cb (w_fX12_draw _ _ _ _ _ FW.refl) rfl rfl h_g (fun x41 g42 L43 h_g42 => ?_)
      refine kp_ck ?_
      refine kp_ite ?_ ?_
      ·
        exact w_fX12_term_p121 _ _ _ _ _ _ _ _ _ _ _ _ _ _ hk57 hk71 h_g42
      ·
        refine kp_stF (by decide) h_g42 (fun g46 h_g46 => ?_)
        exact w_fX12_term_p121 _ _ _ _ _ _ _ _ _ _ _ _ _ _ hk57 hk71 h_g46
theorem w_fX12_term_l71 (g0 : gT) (fu : Nat) (k57 : Int32 × Int32 × Int32 × Int32 × gT × lT → Option ((Int32) × zS)) (v2 : Int32) (v3 : Int32) (v4 : Int32) (v5 : Int32) (v6 : Int32) (v7 : Int32) (v8 : Int32) (v9 : Int32) (g : gT) (L : lT) (hk57 : ∀ v : Int32 × Int32 × Int32 × Int32 × gT × lT, FW wA_fX12_term wB_fX12_term g0 (v.2.2.2.2.1) → Kp wA_fX12_term wB_fX12_term g0 (k57 v)) (h_g : FW wA_fX12_term wB_fX12_term g0 g) : Kp wA_fX12_term wB_fX12_term g0 (fX12_term_l71 fu k57 v2 v3 v4 v5 v6 v7 v8 v9 g L) := by
  unfold fX12_term_l71
  exact kp_loop (fun v => v.2.1) (fun k_ hk_ v hv_ => w_fX12_term_s71 _ _ _ _ _ _ _ _ _ _ _ _ _ _ hk57 hk_ hv_) h_g
theorem w_fX12_term_s57 (g0 : gT) (fu : Nat) (v2 : Int32) (v3 : Int32) (v4 : Int32) (k57 : Int32 × Int32 × Int32 × Int32 × gT × lT → Option ((Int32) × zS)) (v5 : Int32) (v6 : Int32) (v7 : Int32) (v8 : Int32) (g : gT) (L : lT) (hk57 : ∀ v : Int32 × Int32 × Int32 × Int32 × gT × lT, FW wA_fX12_term wB_fX12_term g0 (v.2.2.2.2.1) → Kp wA_fX12_term wB_fX12_term g0 (k57 v)) (h_g : FW wA_fX12_term wB_fX12_term g0 g) : Kp wA_fX12_term wB_fX12_term g0 (fX12_term_s57 fu v2 v3 v4 k57 v5 v6 v7 v8 g L) := by
  unfold fX12_term_s57
  refine kp_ite ?_ ?_
  ·
    refine kp_stF (by decide) h_g (fun g23 h_g23 => ?_)
    refine kp_ite ?_ ?_
    ·
      exact w_fX12_term_p208 _ _ _ _ _ h_g23
    ·
      refine kp_ite ?_ ?_
      ·
        exact w_fX12_term_p208 _ _ _ _ _ h_g23
      ·
        exact w_fX12_term_p208 _ _ _ _ _ h_g23
  ·
    refine kp_stF (by decide) h_g (fun g26 h_g26 => ?_)
    exact w_fX12_term_l71 _ _ _ _ _ _ _ _ _ _ _ _ _ hk57 h_g26
theorem w_fX12_term_l57 (g0 : gT) (fu : Nat) (v2 : Int32) (v3 : Int32) (v4 : Int32) (v5 : Int32) (v6 : Int32) (v7 : Int32) (v8 : Int32) (g : gT) (L : lT) (h_g : FW wA_fX12_term wB_fX12_term g0 g) : Kp wA_fX12_term wB_fX12_term g0 (fX12_term_l57 fu v2 v3 v4 v5 v6 v7 v8 g L) := by
  unfold fX12_term_l57
  exact kp_loop (fun v => v.2.2.2.2.1) (fun k_ hk_ v hv_ => w_fX12_term_s57 _ _ _ _ _ _ _ _ _ _ _ _ hk_ hv_) h_g
theorem w_fX12_term (g0 : gT) (fu : Nat) (p1 : Int32) (p2 : Int32) (p3 : Int32) (p4 : Int32) (g : gT) (L : lT) (h_g : FW wA_fX12_term wB_fX12_term g0 g) : Kp wA_fX12_term wB_fX12_term g0 (fX12_term fu p1 p2 p3 p4 g L) := by
  unfold fX12_term
  refine kp_stF (by decide) h_g (fun g1 h_g1 => ?_)
  refine kp_cb (w_fX12_isLesson _ _ _ _ _ FW.refl) rfl rfl h_g1 (fun x2 g3 L4 h_g3 => ?_)
  refine kp_ite ?_ ?_
  ·
    exact w_fX12_term_p38 _ _ _ _ h_g3
  ·
    refine kp_cb (w_fX12_isWhat _ _ _ _ _ _ FW.refl) rfl rfl h_g3 (fun x7 g8 L9 h_g8 => ?_)
    refine kp_ite ?_ ?_
    ·
      exact w_fX12_term_p38 _ _ _ _ h_g8
    ·
      refine kp_cb (w_fX12_within _ _ _ _ _ _ _ FW.refl) rfl rfl h_g8 (fun x12 g13 L14 h_g13 => ?_)
      refine kp_cb (w_fX12_right _ _ _ _ _ _ FW.refl) rfl rfl h_g13 (fun x16 g17 L18 h_g17 => ?_)
      refine kp_ite ?_ ?_
      ·
        exact w_fX12_term_p38 _ _ _ _ h_g17
      ·
        refine kp_stF (by decide) h_g17 (fun g21 h_g21 => ?_)
        exact w_fX12_term_l57 _ _ _ _ _ _ _ _ _ _ _ h_g21
abbrev wA_fX12_copies_12_48 : List (Nat × Nat) := []
abbrev wB_fX12_copies_12_48 : List Nat := [48]
theorem w_fX12_copies_12_48_s2 (g0 : gT) (fu : Nat) (k2 : Int32 × gT × lT → Option ((Unit) × zS)) (v3 : Int32) (g : gT) (L : lT) (hk2 : ∀ v : Int32 × gT × lT, FW wA_fX12_copies_12_48 wB_fX12_copies_12_48 g0 (v.2.1) → Kp wA_fX12_copies_12_48 wB_fX12_copies_12_48 g0 (k2 v)) (h_g : FW wA_fX12_copies_12_48 wB_fX12_copies_12_48 g0 g) : Kp wA_fX12_copies_12_48 wB_fX12_copies_12_48 g0 (fX12_copies_12_48_s2 fu k2 v3 g L) := by
  unfold fX12_copies_12_48_s2
  refine kp_ite ?_ ?_
  ·
    exact kp_some h_g
  ·
    refine kp_ck ?_
    refine kp_ck ?_
    refine kp_stB (by decide) h_g (fun g2 h_g2 => ?_)
    exact hk2 _ h_g2
theorem w_fX12_copies_12_48_l2 (g0 : gT) (fu : Nat) (v3 : Int32) (g : gT) (L : lT) (h_g : FW wA_fX12_copies_12_48 wB_fX12_copies_12_48 g0 g) : Kp wA_fX12_copies_12_48 wB_fX12_copies_12_48 g0 (fX12_copies_12_48_l2 fu v3 g L) := by
  unfold fX12_copies_12_48_l2
  exact kp_loop (fun v => v.2.1) (fun k_ hk_ v hv_ => w_fX12_copies_12_48_s2 _ _ _ _ _ _ hk_ hv_) h_g
theorem w_fX12_copies_12_48 (g0 : gT) (fu : Nat) (g : gT) (L : lT) (h_g : FW wA_fX12_copies_12_48 wB_fX12_copies_12_48 g0 g) : Kp wA_fX12_copies_12_48 wB_fX12_copies_12_48 g0 (fX12_copies_12_48 fu g L) := by
  unfold fX12_copies_12_48
  exact w_fX12_copies_12_48_l2 _ _ _ _ _ h_g
abbrev wA_fX12_copies_36_49 : List (Nat × Nat) := []
abbrev wB_fX12_copies_36_49 : List Nat := [49]
theorem w_fX12_copies_36_49_s2 (g0 : gT) (fu : Nat) (k2 : Int32 × gT × lT → Option ((Unit) × zS)) (v3 : Int32) (g : gT) (L : lT) (hk2 : ∀ v : Int32 × gT × lT, FW wA_fX12_copies_36_49 wB_fX12_copies_36_49 g0 (v.2.1) → Kp wA_fX12_copies_36_49 wB_fX12_copies_36_49 g0 (k2 v)) (h_g : FW wA_fX12_copies_36_49 wB_fX12_copies_36_49 g0 g) : Kp wA_fX12_copies_36_49 wB_fX12_copies_36_49 g0 (fX12_copies_36_49_s2 fu k2 v3 g L) := by
  unfold fX12_copies_36_49_s2
  refine kp_ite ?_ ?_
  ·
    exact kp_some h_g
  ·
    refine kp_ck ?_
    refine kp_ck ?_
    refine kp_stB (by decide) h_g (fun g2 h_g2 => ?_)
    exact hk2 _ h_g2
theorem w_fX12_copies_36_49_l2 (g0 : gT) (fu : Nat) (v3 : Int32) (g : gT) (L : lT) (h_g : FW wA_fX12_copies_36_49 wB_fX12_copies_36_49 g0 g) : Kp wA_fX12_copies_36_49 wB_fX12_copies_36_49 g0 (fX12_copies_36_49_l2 fu v3 g L) := by
  unfold fX12_copies_36_49_l2
  exact kp_loop (fun v => v.2.1) (fun k_ hk_ v hv_ => w_fX12_copies_36_49_s2 _ _ _ _ _ _ hk_ hv_) h_g
theorem w_fX12_copies_36_49 (g0 : gT) (fu : Nat) (g : gT) (L : lT) (h_g : FW wA_fX12_copies_36_49 wB_fX12_copies_36_49 g0 g) : Kp wA_fX12_copies_36_49 wB_fX12_copies_36_49 g0 (fX12_copies_36_49 fu g L) := by
  unfold fX12_copies_36_49
  exact w_fX12_copies_36_49_l2 _ _ _ _ _ h_g
abbrev wA_fX12_copies_43_50 : List (Nat × Nat) := []
abbrev wB_fX12_copies_43_50 : List Nat := [50]
theorem w_fX12_copies_43_50_s2 (g0 : gT) (fu : Nat) (k2 : Int32 × gT × lT → Option ((Unit) × zS)) (v3 : Int32) (g : gT) (L : lT) (hk2 : ∀ v : Int32 × gT × lT, FW wA_fX12_copies_43_50 wB_fX12_copies_43_50 g0 (v.2.1) → Kp wA_fX12_copies_43_50 wB_fX12_copies_43_50 g0 (k2 v)) (h_g : FW wA_fX12_copies_43_50 wB_fX12_copies_43_50 g0 g) : Kp wA_fX12_copies_43_50 wB_fX12_copies_43_50 g0 (fX12_copies_43_50_s2 fu k2 v3 g L) := by
  unfold fX12_copies_43_50_s2
  refine kp_ite ?_ ?_
  ·
    exact kp_some h_g
  ·
    refine kp_ck ?_
    refine kp_ck ?_
    refine kp_stB (by decide) h_g (fun g2 h_g2 => ?_)
    exact hk2 _ h_g2
theorem w_fX12_copies_43_50_l2 (g0 : gT) (fu : Nat) (v3 : Int32) (g : gT) (L : lT) (h_g : FW wA_fX12_copies_43_50 wB_fX12_copies_43_50 g0 g) : Kp wA_fX12_copies_43_50 wB_fX12_copies_43_50 g0 (fX12_copies_43_50_l2 fu v3 g L) := by
  unfold fX12_copies_43_50_l2
  exact kp_loop (fun v => v.2.1) (fun k_ hk_ v hv_ => w_fX12_copies_43_50_s2 _ _ _ _ _ _ hk_ hv_) h_g
theorem w_fX12_copies_43_50 (g0 : gT) (fu : Nat) (g : gT) (L : lT) (h_g : FW wA_fX12_copies_43_50 wB_fX12_copies_43_50 g0 g) : Kp wA_fX12_copies_43_50 wB_fX12_copies_43_50 g0 (fX12_copies_43_50 fu g L) := by
  unfold fX12_copies_43_50
  exact w_fX12_copies_43_50_l2 _ _ _ _ _ h_g
abbrev wA_fX12_image : List (Nat × Nat) := [(0, 0), (0, 81), (0, 82), (0, 83), (0, 84)]
abbrev wB_fX12_image : List Nat := [48, 49, 50]
theorem w_fX12_image (g0 : gT) (fu : Nat) (g : gT) (L : lT) (h_g : FW wA_fX12_image wB_fX12_image g0 g) : Kp wA_fX12_image wB_fX12_image g0 (fX12_image fu g L) := by
  unfold fX12_image
  refine kp_stF (by decide) h_g (fun g1 h_g1 => ?_)
  refine kp_stF (by decide) h_g1 (fun g2 h_g2 => ?_)
  refine kp_stF (by decide) h_g2 (fun g3 h_g3 => ?_)
  refine kp_stF (by decide) h_g3 (fun g4 h_g4 => ?_)
  refine kp_stF (by decide) h_g4 (fun g5 h_g5 => ?_)
  refine kp_cb (w_fX12_copies_12_48 _ _ _ _ FW.refl) rfl rfl h_g5 (fun x6 g7 L8 h_g7 => ?_)
  refine kp_cb (w_fX12_copies_36_49 _ _ _ _ FW.refl) rfl rfl h_g7 (fun x10 g11 L12 h_g11 => ?_)
  refine kp_cb (w_fX12_copies_43_50 _ _ _ _ FW.refl) rfl rfl h_g11 (fun x14 g15 L16 h_g15 => ?_)
  exact kp_some h_g15
abbrev wA_fX12_copies_48_12 : List (Nat × Nat) := []
abbrev wB_fX12_copies_48_12 : List Nat := [12]
theorem w_fX12_copies_48_12_s2 (g0 : gT) (fu : Nat) (k2 : Int32 × gT × lT → Option ((Unit) × zS)) (v3 : Int32) (g : gT) (L : lT) (hk2 : ∀ v : Int32 × gT × lT, FW wA_fX12_copies_48_12 wB_fX12_copies_48_12 g0 (v.2.1) → Kp wA_fX12_copies_48_12 wB_fX12_copies_48_12 g0 (k2 v)) (h_g : FW wA_fX12_copies_48_12 wB_fX12_copies_48_12 g0 g) : Kp wA_fX12_copies_48_12 wB_fX12_copies_48_12 g0 (fX12_copies_48_12_s2 fu k2 v3 g L) := by
  unfold fX12_copies_48_12_s2
  refine kp_ite ?_ ?_
  ·
    exact kp_some h_g
  ·
    refine kp_ck ?_
    refine kp_ck ?_
    refine kp_stB (by decide) h_g (fun g2 h_g2 => ?_)
    exact hk2 _ h_g2
theorem w_fX12_copies_48_12_l2 (g0 : gT) (fu : Nat) (v3 : Int32) (g : gT) (L : lT) (h_g : FW wA_fX12_copies_48_12 wB_fX12_copies_48_12 g0 g) : Kp wA_fX12_copies_48_12 wB_fX12_copies_48_12 g0 (fX12_copies_48_12_l2 fu v3 g L) := by
  unfold fX12_copies_48_12_l2
  exact kp_loop (fun v => v.2.1) (fun k_ hk_ v hv_ => w_fX12_copies_48_12_s2 _ _ _ _ _ _ hk_ hv_) h_g
theorem w_fX12_copies_48_12 (g0 : gT) (fu : Nat) (g : gT) (L : lT) (h_g : FW wA_fX12_copies_48_12 wB_fX12_copies_48_12 g0 g) : Kp wA_fX12_copies_48_12 wB_fX12_copies_48_12 g0 (fX12_copies_48_12 fu g L) := by
  unfold fX12_copies_48_12
  exact w_fX12_copies_48_12_l2 _ _ _ _ _ h_g
abbrev wA_fX12_copies_49_36 : List (Nat × Nat) := []
abbrev wB_fX12_copies_49_36 : List Nat := [36]
theorem w_fX12_copies_49_36_s2 (g0 : gT) (fu : Nat) (k2 : Int32 × gT × lT → Option ((Unit) × zS)) (v3 : Int32) (g : gT) (L : lT) (hk2 : ∀ v : Int32 × gT × lT, FW wA_fX12_copies_49_36 wB_fX12_copies_49_36 g0 (v.2.1) → Kp wA_fX12_copies_49_36 wB_fX12_copies_49_36 g0 (k2 v)) (h_g : FW wA_fX12_copies_49_36 wB_fX12_copies_49_36 g0 g) : Kp wA_fX12_copies_49_36 wB_fX12_copies_49_36 g0 (fX12_copies_49_36_s2 fu k2 v3 g L) := by
  unfold fX12_copies_49_36_s2
  refine kp_ite ?_ ?_
  ·
    exact kp_some h_g
  ·
    refine kp_ck ?_
    refine kp_ck ?_
    refine kp_stB (by decide) h_g (fun g2 h_g2 => ?_)
    exact hk2 _ h_g2
theorem w_fX12_copies_49_36_l2 (g0 : gT) (fu : Nat) (v3 : Int32) (g : gT) (L : lT) (h_g : FW wA_fX12_copies_49_36 wB_fX12_copies_49_36 g0 g) : Kp wA_fX12_copies_49_36 wB_fX12_copies_49_36 g0 (fX12_copies_49_36_l2 fu v3 g L) := by
  unfold fX12_copies_49_36_l2
  exact kp_loop (fun v => v.2.1) (fun k_ hk_ v hv_ => w_fX12_copies_49_36_s2 _ _ _ _ _ _ hk_ hv_) h_g
theorem w_fX12_copies_49_36 (g0 : gT) (fu : Nat) (g : gT) (L : lT) (h_g : FW wA_fX12_copies_49_36 wB_fX12_copies_49_36 g0 g) : Kp wA_fX12_copies_49_36 wB_fX12_copies_49_36 g0 (fX12_copies_49_36 fu g L) := by
  unfold fX12_copies_49_36
  exact w_fX12_copies_49_36_l2 _ _ _ _ _ h_g
abbrev wA_fX12_copies_50_43 : List (Nat × Nat) := []
abbrev wB_fX12_copies_50_43 : List Nat := [43]
theorem w_fX12_copies_50_43_s2 (g0 : gT) (fu : Nat) (k2 : Int32 × gT × lT → Option ((Unit) × zS)) (v3 : Int32) (g : gT) (L : lT) (hk2 : ∀ v : Int32 × gT × lT, FW wA_fX12_copies_50_43 wB_fX12_copies_50_43 g0 (v.2.1) → Kp wA_fX12_copies_50_43 wB_fX12_copies_50_43 g0 (k2 v)) (h_g : FW wA_fX12_copies_50_43 wB_fX12_copies_50_43 g0 g) : Kp wA_fX12_copies_50_43 wB_fX12_copies_50_43 g0 (fX12_copies_50_43_s2 fu k2 v3 g L) := by
  unfold fX12_copies_50_43_s2
  refine kp_ite ?_ ?_
  ·
    exact kp_some h_g
  ·
    refine kp_ck ?_
    refine kp_ck ?_
    refine kp_stB (by decide) h_g (fun g2 h_g2 => ?_)
    exact hk2 _ h_g2
theorem w_fX12_copies_50_43_l2 (g0 : gT) (fu : Nat) (v3 : Int32) (g : gT) (L : lT) (h_g : FW wA_fX12_copies_50_43 wB_fX12_copies_50_43 g0 g) : Kp wA_fX12_copies_50_43 wB_fX12_copies_50_43 g0 (fX12_copies_50_43_l2 fu v3 g L) := by
  unfold fX12_copies_50_43_l2
  exact kp_loop (fun v => v.2.1) (fun k_ hk_ v hv_ => w_fX12_copies_50_43_s2 _ _ _ _ _ _ hk_ hv_) h_g
theorem w_fX12_copies_50_43 (g0 : gT) (fu : Nat) (g : gT) (L : lT) (h_g : FW wA_fX12_copies_50_43 wB_fX12_copies_50_43 g0 g) : Kp wA_fX12_copies_50_43 wB_fX12_copies_50_43 g0 (fX12_copies_50_43 fu g L) := by
  unfold fX12_copies_50_43
  exact w_fX12_copies_50_43_l2 _ _ _ _ _ h_g
abbrev wA_fX12_restore : List (Nat × Nat) := [(0, 0), (0, 52), (0, 62), (0, 73)]
abbrev wB_fX12_restore : List Nat := [12, 36, 43]
theorem w_fX12_restore (g0 : gT) (fu : Nat) (g : gT) (L : lT) (h_g : FW wA_fX12_restore wB_fX12_restore g0 g) : Kp wA_fX12_restore wB_fX12_restore g0 (fX12_restore fu g L) := by
  unfold fX12_restore
  refine kp_stF (by decide) h_g (fun g1 h_g1 => ?_)
  refine kp_ite ?_ ?_
  ·
    refine kp_ckb ?_
    exact kp_some h_g1
  ·
    refine kp_stF (by decide) h_g1 (fun g3 h_g3 => ?_)
    refine kp_stF (by decide) h_g3 (fun g4 h_g4 => ?_)
    refine kp_stF (by decide) h_g4 (fun g5 h_g5 => ?_)
    refine kp_cb (w_fX12_copies_48_12 _ _ _ _ FW.refl) rfl rfl h_g5 (fun x6 g7 L8 h_g7 => ?_)
    refine kp_cb (w_fX12_copies_49_36 _ _ _ _ FW.refl) rfl rfl h_g7 (fun x10 g11 L12 h_g11 => ?_)
    refine kp_cb (w_fX12_copies_50_43 _ _ _ _ FW.refl) rfl rfl h_g11 (fun x14 g15 L16 h_g15 => ?_)
    refine kp_ckb ?_
    exact kp_some h_g15
