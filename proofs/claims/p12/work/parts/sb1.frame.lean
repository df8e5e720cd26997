/-! ===== frames ===== -/
theorem q57 {q : Nat} (h : 57 ≤ q ∧ q ≤ 68) : q ∈ [57, 58, 59, 60, 61, 62, 63, 64, 65, 66, 67, 68] := by
  rcases (by omega : q = 57 ∨ q = 58 ∨ q = 59 ∨ q = 60 ∨ q = 61 ∨ q = 62 ∨ q = 63 ∨ q = 64 ∨ q = 65 ∨ q = 66 ∨ q = 67 ∨ q = 68) with rfl | rfl | rfl | rfl | rfl | rfl | rfl | rfl | rfl | rfl | rfl | rfl <;> decide
theorem q25 {q : Nat} (h1 : 25 ≤ q) (h2 : q ≤ 28) : q ∈ [25, 26, 27, 28] := by
  rcases (by omega : q = 25 ∨ q = 26 ∨ q = 27 ∨ q = 28) with rfl | rfl | rfl | rfl <;> decide
abbrev wA_fX1_isUpstairs_8 : List (Nat × Nat) := []
abbrev wB_fX1_isUpstairs_8 : List Nat := []
theorem w_fX1_isUpstairs_8_p18 (g0 : gT) (fu : Nat) (t0 : Int32) (g : gT) (L : lT) (h_g : FW wA_fX1_isUpstairs_8 wB_fX1_isUpstairs_8 g0 g) : Kp wA_fX1_isUpstairs_8 wB_fX1_isUpstairs_8 g0 (fX1_isUpstairs_8_p18 fu t0 g L) := by
  unfold fX1_isUpstairs_8_p18
  refine kp_ckb ?_
  exact kp_some h_g
theorem w_fX1_isUpstairs_8 (g0 : gT) (fu : Nat) (p1 : Int32) (g : gT) (L : lT) (h_g : FW wA_fX1_isUpstairs_8 wB_fX1_isUpstairs_8 g0 g) : Kp wA_fX1_isUpstairs_8 wB_fX1_isUpstairs_8 g0 (fX1_isUpstairs_8 fu p1 g L) := by
  unfold fX1_isUpstairs_8
  refine kp_ck ?_
  refine kp_ite ?_ ?_
  ·
    exact w_fX1_isUpstairs_8_p18 _ _ _ _ _ h_g
  ·
    exact w_fX1_isUpstairs_8_p18 _ _ _ _ _ h_g
abbrev wA_fX1_late_8 : List (Nat × Nat) := []
abbrev wB_fX1_late_8 : List Nat := []
theorem w_fX1_late_8 (g0 : gT) (fu : Nat) (p1 : Int32) (g : gT) (L : lT) (h_g : FW wA_fX1_late_8 wB_fX1_late_8 g0 g) : Kp wA_fX1_late_8 wB_fX1_late_8 g0 (fX1_late_8 fu p1 g L) := by
  unfold fX1_late_8
  refine kp_ck ?_
  refine kp_ck ?_
  refine kp_ltn (fun q1 e_ => ?_)
  exact kp_some h_g
abbrev wA_fX1_lost_8 : List (Nat × Nat) := []
abbrev wB_fX1_lost_8 : List Nat := []
theorem w_fX1_lost_8_s4 (g0 : gT) (fu : Nat) (k4 : Int32 × Int32 × gT × lT → Option ((Int32) × zS)) (v1 : Int32) (v2 : Int32) (g : gT) (L : lT) (hk4 : ∀ v : Int32 × Int32 × gT × lT, FW wA_fX1_lost_8 wB_fX1_lost_8 g0 (v.2.2.1) → Kp wA_fX1_lost_8 wB_fX1_lost_8 g0 (k4 v)) (h_g : FW wA_fX1_lost_8 wB_fX1_lost_8 g0 g) : Kp wA_fX1_lost_8 wB_fX1_lost_8 g0 (fX1_lost_8_s4 fu k4 v1 v2 g L) := by
  unfold fX1_lost_8_s4
  refine kp_ite ?_ ?_
  ·
    exact kp_some h_g
  ·
    refine kp_ck ?_
    refine kp_ltn (fun q2 e_ => ?_)
    refine kp_cb (w_fX1_late_8 _ _ _ _ _ FW.refl) rfl rfl h_g (fun x3 g4 L5 h_g4 => ?_)
    refine kp_lti (fun x7 => ?_)
    exact hk4 _ h_g4
theorem w_fX1_lost_8_l4 (g0 : gT) (fu : Nat) (v1 : Int32) (v2 : Int32) (g : gT) (L : lT) (h_g : FW wA_fX1_lost_8 wB_fX1_lost_8 g0 g) : Kp wA_fX1_lost_8 wB_fX1_lost_8 g0 (fX1_lost_8_l4 fu v1 v2 g L) := by
  unfold fX1_lost_8_l4
  exact kp_loop (fun v => v.2.2.1) (fun k_ hk_ v hv_ => w_fX1_lost_8_s4 _ _ _ _ _ _ _ hk_ hv_) h_g
theorem w_fX1_lost_8 (g0 : gT) (fu : Nat) (g : gT) (L : lT) (h_g : FW wA_fX1_lost_8 wB_fX1_lost_8 g0 g) : Kp wA_fX1_lost_8 wB_fX1_lost_8 g0 (fX1_lost_8 fu g L) := by
  unfold fX1_lost_8
  exact w_fX1_lost_8_l4 _ _ _ _ _ _ h_g
abbrev wA_fX1_comingOf_8 : List (Nat × Nat) := []
abbrev wB_fX1_comingOf_8 : List Nat := []
theorem w_fX1_comingOf_8_p84 (g0 : gT) (fu : Nat) (k6 : Int32 × Int32 × gT × lT → Option ((Int32) × zS)) (v1 : Int32) (v2 : Int32) (v4 : Int32) (v5 : Int32) (g : gT) (L : lT) (hk6 : ∀ v : Int32 × Int32 × gT × lT, FW wA_fX1_comingOf_8 wB_fX1_comingOf_8 g0 (v.2.2.1) → Kp wA_fX1_comingOf_8 wB_fX1_comingOf_8 g0 (k6 v)) (h_g : FW wA_fX1_comingOf_8 wB_fX1_comingOf_8 g0 g) : Kp wA_fX1_comingOf_8 wB_fX1_comingOf_8 g0 (fX1_comingOf_8_p84 fu k6 v1 v2 v4 v5 g L) := by
  unfold fX1_comingOf_8_p84
  exact hk6 _ h_g
theorem w_fX1_comingOf_8_p48 (g0 : gT) (fu : Nat) (k6 : Int32 × Int32 × gT × lT → Option ((Int32) × zS)) (k18 : Int32 × Int32 × gT × lT → Option ((Int32) × zS)) (v1 : Int32) (v2 : Int32) (v4 : Int32) (v5 : Int32) (v7 : Int32) (t0 : Int32) (t1 : Int32) (g : gT) (L : lT) (hk6 : ∀ v : Int32 × Int32 × gT × lT, FW wA_fX1_comingOf_8 wB_fX1_comingOf_8 g0 (v.2.2.1) → Kp wA_fX1_comingOf_8 wB_fX1_comingOf_8 g0 (k6 v)) (hk18 : ∀ v : Int32 × Int32 × gT × lT, FW wA_fX1_comingOf_8 wB_fX1_comingOf_8 g0 (v.2.2.1) → Kp wA_fX1_comingOf_8 wB_fX1_comingOf_8 g0 (k18 v)) (h_g : FW wA_fX1_comingOf_8 wB_fX1_comingOf_8 g0 g) : Kp wA_fX1_comingOf_8 wB_fX1_comingOf_8 g0 (fX1_comingOf_8_p48 fu k6 k18 v1 v2 v4 v5 v7 t0 t1 g L) := by
  unfold fX1_comingOf_8_p48
  refine kp_lti (fun x6 => ?_)
  exact hk18 _ h_g
theorem w_fX1_comingOf_8_s18 (g0 : gT) (fu : Nat) (k6 : Int32 × Int32 × gT × lT → Option ((Int32) × zS)) (v1 : Int32) (v2 : Int32) (v4 : Int32) (v5 : Int32) (k18 : Int32 × Int32 × gT × lT → Option ((Int32) × zS)) (v6 : Int32) (v7 : Int32) (g : gT) (L : lT) (hk6 : ∀ v : Int32 × Int32 × gT × lT, FW wA_fX1_comingOf_8 wB_fX1_comingOf_8 g0 (v.2.2.1) → Kp wA_fX1_comingOf_8 wB_fX1_comingOf_8 g0 (k6 v)) (hk18 : ∀ v : Int32 × Int32 × gT × lT, FW wA_fX1_comingOf_8 wB_fX1_comingOf_8 g0 (v.2.2.1) → Kp wA_fX1_comingOf_8 wB_fX1_comingOf_8 g0 (k18 v)) (h_g : FW wA_fX1_comingOf_8 wB_fX1_comingOf_8 g0 g) : Kp wA_fX1_comingOf_8 wB_fX1_comingOf_8 g0 (fX1_comingOf_8_s18 fu k6 v1 v2 v4 v5 k18 v6 v7 g L) := by
  unfold fX1_comingOf_8_s18
  refine kp_ite ?_ ?_
  ·
    refine kp_ite ?_ ?_
    ·
      exact w_fX1_comingOf_8_p84 _ _ _ _ _ _ _ _ _ hk6 h_g
    ·
      refine kp_ck ?_
      refine kp_ite ?_ ?_
      ·
        exact w_fX1_comingOf_8_p84 _ _ _ _ _ _ _ _ _ hk6 h_g
      ·
        refine kp_ck ?_
        refine kp_lti (fun x5 => ?_)
        exact w_fX1_comingOf_8_p84 _ _ _ _ _ _ _ _ _ hk6 h_g
  ·
    refine kp_ck ?_
    refine kp_ck ?_
    refine kp_ite ?_ ?_
    ·
      exact w_fX1_comingOf_8_p48 _ _ _ _ _ _ _ _ _ _ _ _ _ hk6 hk18 h_g
    ·
      exact w_fX1_comingOf_8_p48 _ _ _ _ _ _ _ _ _ _ _ _ _ hk6 hk18 h_g
theorem w_fX1_comingOf_8_l18 (g0 : gT) (fu : Nat) (k6 : Int32 × Int32 × gT × lT → Option ((Int32) × zS)) (v1 : Int32) (v2 : Int32) (v4 : Int32) (v5 : Int32) (v6 : Int32) (v7 : Int32) (g : gT) (L : lT) (hk6 : ∀ v : Int32 × Int32 × gT × lT, FW wA_fX1_comingOf_8 wB_fX1_comingOf_8 g0 (v.2.2.1) → Kp wA_fX1_comingOf_8 wB_fX1_comingOf_8 g0 (k6 v)) (h_g : FW wA_fX1_comingOf_8 wB_fX1_comingOf_8 g0 g) : Kp wA_fX1_comingOf_8 wB_fX1_comingOf_8 g0 (fX1_comingOf_8_l18 fu k6 v1 v2 v4 v5 v6 v7 g L) := by
  unfold fX1_comingOf_8_l18
  exact kp_loop (fun v => v.2.2.1) (fun k_ hk_ v hv_ => w_fX1_comingOf_8_s18 _ _ _ _ _ _ _ _ _ _ _ _ hk6 hk_ hv_) h_g
theorem w_fX1_comingOf_8_s6 (g0 : gT) (fu : Nat) (v1 : Int32) (v2 : Int32) (k6 : Int32 × Int32 × gT × lT → Option ((Int32) × zS)) (v4 : Int32) (v5 : Int32) (g : gT) (L : lT) (hk6 : ∀ v : Int32 × Int32 × gT × lT, FW wA_fX1_comingOf_8 wB_fX1_comingOf_8 g0 (v.2.2.1) → Kp wA_fX1_comingOf_8 wB_fX1_comingOf_8 g0 (k6 v)) (h_g : FW wA_fX1_comingOf_8 wB_fX1_comingOf_8 g0 g) : Kp wA_fX1_comingOf_8 wB_fX1_comingOf_8 g0 (fX1_comingOf_8_s6 fu v1 v2 k6 v4 v5 g L) := by
  unfold fX1_comingOf_8_s6
  refine kp_ite ?_ ?_
  ·
    exact kp_some h_g
  ·
    exact w_fX1_comingOf_8_l18 _ _ _ _ _ _ _ _ _ _ _ hk6 h_g
theorem w_fX1_comingOf_8_l6 (g0 : gT) (fu : Nat) (v1 : Int32) (v2 : Int32) (v4 : Int32) (v5 : Int32) (g : gT) (L : lT) (h_g : FW wA_fX1_comingOf_8 wB_fX1_comingOf_8 g0 g) : Kp wA_fX1_comingOf_8 wB_fX1_comingOf_8 g0 (fX1_comingOf_8_l6 fu v1 v2 v4 v5 g L) := by
  unfold fX1_comingOf_8_l6
  exact kp_loop (fun v => v.2.2.1) (fun k_ hk_ v hv_ => w_fX1_comingOf_8_s6 _ _ _ _ _ _ _ _ _ hk_ hv_) h_g
theorem w_fX1_comingOf_8 (g0 : gT) (fu : Nat) (p1 : Int32) (p2 : Int32) (p3 : Int32) (g : gT) (L : lT) (h_g : FW wA_fX1_comingOf_8 wB_fX1_comingOf_8 g0 g) : Kp wA_fX1_comingOf_8 wB_fX1_comingOf_8 g0 (fX1_comingOf_8 fu p1 p2 p3 g L) := by
  unfold fX1_comingOf_8
  exact w_fX1_comingOf_8_l6 _ _ _ _ _ _ _ _ h_g
abbrev wA_fX1_way_8 : List (Nat × Nat) := []
abbrev wB_fX1_way_8 : List Nat := []
theorem w_fX1_way_8_p55 (g0 : gT) (fu : Nat) (v3 : Int32) (g : gT) (L : lT) (h_g : FW wA_fX1_way_8 wB_fX1_way_8 g0 g) : Kp wA_fX1_way_8 wB_fX1_way_8 g0 (fX1_way_8_p55 fu v3 g L) := by
  unfold fX1_way_8_p55
  exact kp_some h_g
theorem w_fX1_way_8 (g0 : gT) (fu : Nat) (p1 : Int32) (p2 : Int32) (g : gT) (L : lT) (h_g : FW wA_fX1_way_8 wB_fX1_way_8 g0 g) : Kp wA_fX1_way_8 wB_fX1_way_8 g0 (fX1_way_8 fu p1 p2 g L) := by
  unfold fX1_way_8
  refine kp_ck ?_
  refine kp_ck ?_
  refine kp_lti (fun x1 => ?_)
  refine kp_cb (w_fX1_isUpstairs_8 _ _ _ _ _ FW.refl) rfl rfl h_g (fun x2 g3 L4 h_g3 => ?_)
  refine kp_cb (w_fX1_isUpstairs_8 _ _ _ _ _ FW.refl) rfl rfl h_g3 (fun x6 g7 L8 h_g7 => ?_)
  refine kp_ite ?_ ?_
  ·
    exact w_fX1_way_8_p55 _ _ _ _ _ h_g7
  ·
    refine kp_ite ?_ ?_
    ·
      refine kp_ck ?_
      refine kp_ltn (fun q12 e_ => ?_)
      refine kp_cnz ?_
      exact kp_some h_g7
    ·
      exact w_fX1_way_8_p55 _ _ _ _ _ h_g7
abbrev wA_fX1_firstComingAt_8_les : List (Nat × Nat) := []
abbrev wB_fX1_firstComingAt_8_les : List Nat := []
theorem w_fX1_firstComingAt_8_les_s2 (g0 : gT) (fu : Nat) (v1 : Int32) (q2_ : Nat) (k2 : Int32 × gT × lT → Option ((Int32) × zS)) (v3 : Int32) (g : gT) (L : lT) (hk2 : ∀ v : Int32 × gT × lT, FW wA_fX1_firstComingAt_8_les wB_fX1_firstComingAt_8_les g0 (v.2.1) → Kp wA_fX1_firstComingAt_8_les wB_fX1_firstComingAt_8_les g0 (k2 v)) (h_g : FW wA_fX1_firstComingAt_8_les wB_fX1_firstComingAt_8_les g0 g) : Kp wA_fX1_firstComingAt_8_les wB_fX1_firstComingAt_8_les g0 (fX1_firstComingAt_8_les_s2 fu v1 q2_ k2 v3 g L) := by
  unfold fX1_firstComingAt_8_les_s2
  refine kp_ite ?_ ?_
  ·
    exact kp_some h_g
  ·
    refine kp_ck ?_
    refine kp_ite ?_ ?_
    ·
      refine kp_ck ?_
      exact kp_some h_g
    ·
      exact hk2 _ h_g
theorem w_fX1_firstComingAt_8_les_l2 (g0 : gT) (fu : Nat) (v1 : Int32) (q2_ : Nat) (v3 : Int32) (g : gT) (L : lT) (h_g : FW wA_fX1_firstComingAt_8_les wB_fX1_firstComingAt_8_les g0 g) : Kp wA_fX1_firstComingAt_8_les wB_fX1_firstComingAt_8_les g0 (fX1_firstComingAt_8_les_l2 fu v1 q2_ v3 g L) := by
  unfold fX1_firstComingAt_8_les_l2
  exact kp_loop (fun v => v.2.1) (fun k_ hk_ v hv_ => w_fX1_firstComingAt_8_les_s2 _ _ _ _ _ _ _ _ hk_ hv_) h_g
theorem w_fX1_firstComingAt_8_les (g0 : gT) (fu : Nat) (p1 : Int32) (q1_ : Nat) (g : gT) (L : lT) (h_g : FW wA_fX1_firstComingAt_8_les wB_fX1_firstComingAt_8_les g0 g) : Kp wA_fX1_firstComingAt_8_les wB_fX1_firstComingAt_8_les g0 (fX1_firstComingAt_8_les fu p1 q1_ g L) := by
  unfold fX1_firstComingAt_8_les
  exact w_fX1_firstComingAt_8_les_l2 _ _ _ _ _ _ _ h_g
abbrev wA_fX1_begin_8_les : List (Nat × Nat) := []
abbrev wB_fX1_begin_8_les : List Nat := [43, 46, 47]
theorem w_fX1_begin_8_les_p115 (g0 : gT) (fu : Nat) (v1 : Int32) (q2_ : Nat) (v3 : Int32) (g : gT) (L : lT) (h_g : FW wA_fX1_begin_8_les wB_fX1_begin_8_les g0 g) : Kp wA_fX1_begin_8_les wB_fX1_begin_8_les g0 (fX1_begin_8_les_p115 fu v1 q2_ v3 g L) := by
  unfold fX1_begin_8_les_p115
  refine kp_ite ?_ ?_
  ·
    refine kp_ck ?_
    refine kp_lti (fun x6 => ?_)
    refine kp_ite ?_ ?_
    ·
      refine kp_ck ?_
      refine kp_stB (by decide) h_g (fun g8 h_g8 => ?_)
      refine kp_cb (w_fX1_firstComingAt_8_les _ _ _ _ _ _ FW.refl) rfl rfl h_g8 (fun x9 g10 L11 h_g10 => ?_)
      refine kp_ck ?_
      refine kp_stB (by decide) h_g10 (fun g13 h_g13 => ?_)
      exact kp_some h_g13
    ·
      refine kp_ck ?_
      refine kp_stB (by decide) h_g (fun g14 h_g14 => ?_)
      exact kp_some h_g14
  ·
    exact kp_some h_g
theorem w_fX1_begin_8_les_s25 (g0 : gT) (fu : Nat) (v1 : Int32) (q2_ : Nat) (k25 : Int32 × Int32 × gT × lT → Option ((Unit) × zS)) (v3 : Int32) (v4 : Int32) (g : gT) (L : lT) (hk25 : ∀ v : Int32 × Int32 × gT × lT, FW wA_fX1_begin_8_les wB_fX1_begin_8_les g0 (v.2.2.1) → Kp wA_fX1_begin_8_les wB_fX1_begin_8_les g0 (k25 v)) (h_g : FW wA_fX1_begin_8_les wB_fX1_begin_8_les g0 g) : Kp wA_fX1_begin_8_les wB_fX1_begin_8_les g0 (fX1_begin_8_les_s25 fu v1 q2_ k25 v3 v4 g L) := by
  unfold fX1_begin_8_les_s25
  refine kp_ite ?_ ?_
  ·
    refine kp_ite ?_ ?_
    ·
      refine kp_cb (w_fX1_comingOf_8 _ _ _ _ _ _ _ FW.refl) rfl rfl h_g (fun x16 g17 L18 h_g17 => ?_)
      exact w_fX1_begin_8_les_p115 _ _ _ _ _ _ _ h_g17
    ·
      exact w_fX1_begin_8_les_p115 _ _ _ _ _ _ _ h_g
  ·
    refine kp_ck ?_
    refine kp_lti (fun x20 => ?_)
    refine kp_ck ?_
    refine kp_cb (w_fX1_way_8 _ _ _ _ _ _ FW.refl) rfl rfl h_g (fun x21 g22 L23 h_g22 => ?_)
    refine kp_ck ?_
    refine kp_ck ?_
    refine kp_stB (by decide) h_g22 (fun g25 h_g25 => ?_)
    refine kp_ck ?_
    refine kp_lti (fun x26 => ?_)
    exact hk25 _ h_g25
theorem w_fX1_begin_8_les_l25 (g0 : gT) (fu : Nat) (v1 : Int32) (q2_ : Nat) (v3 : Int32) (v4 : Int32) (g : gT) (L : lT) (h_g : FW wA_fX1_begin_8_les wB_fX1_begin_8_les g0 g) : Kp wA_fX1_begin_8_les wB_fX1_begin_8_les g0 (fX1_begin_8_les_l25 fu v1 q2_ v3 v4 g L) := by
  unfold fX1_begin_8_les_l25
  exact kp_loop (fun v => v.2.2.1) (fun k_ hk_ v hv_ => w_fX1_begin_8_les_s25 _ _ _ _ _ _ _ _ _ hk_ hv_) h_g
theorem w_fX1_begin_8_les (g0 : gT) (fu : Nat) (p1 : Int32) (q1_ : Nat) (g : gT) (L : lT) (h_g : FW wA_fX1_begin_8_les wB_fX1_begin_8_les g0 g) : Kp wA_fX1_begin_8_les wB_fX1_begin_8_les g0 (fX1_begin_8_les fu p1 q1_ g L) := by
  unfold fX1_begin_8_les
  refine kp_ck ?_
  refine kp_stB (by decide) h_g (fun g1 h_g1 => ?_)
  refine kp_ck ?_
  refine kp_stB (by decide) h_g1 (fun g2 h_g2 => ?_)
  refine kp_lti (fun x3 => ?_)
  exact w_fX1_begin_8_les_l25 _ _ _ _ _ _ _ _ h_g2
abbrev wA_fX8_joined : List (Nat × Nat) := []
abbrev wB_fX8_joined : List Nat := []
theorem w_fX8_joined_p103 (g0 : gT) (fu : Nat) (t0 : Int32) (g : gT) (L : lT) (h_g : FW wA_fX8_joined wB_fX8_joined g0 g) : Kp wA_fX8_joined wB_fX8_joined g0 (fX8_joined_p103 fu t0 g L) := by
  unfold fX8_joined_p103
  exact kp_some h_g
theorem w_fX8_joined_p102 (g0 : gT) (fu : Nat) (g : gT) (L : lT) (h_g : FW wA_fX8_joined wB_fX8_joined g0 g) : Kp wA_fX8_joined wB_fX8_joined g0 (fX8_joined_p102 fu g L) := by
  unfold fX8_joined_p102
  exact w_fX8_joined_p103 _ _ _ _ _ h_g
theorem w_fX8_joined_p89 (g0 : gT) (fu : Nat) (t0 : Int32) (g : gT) (L : lT) (h_g : FW wA_fX8_joined wB_fX8_joined g0 g) : Kp wA_fX8_joined wB_fX8_joined g0 (fX8_joined_p89 fu t0 g L) := by
  unfold fX8_joined_p89
  exact kp_some h_g
theorem w_fX8_joined_p78 (g0 : gT) (fu : Nat) (t0 : Int32) (g : gT) (L : lT) (h_g : FW wA_fX8_joined wB_fX8_joined g0 g) : Kp wA_fX8_joined wB_fX8_joined g0 (fX8_joined_p78 fu t0 g L) := by
  unfold fX8_joined_p78
  exact kp_some h_g
theorem w_fX8_joined_p67 (g0 : gT) (fu : Nat) (t0 : Int32) (g : gT) (L : lT) (h_g : FW wA_fX8_joined wB_fX8_joined g0 g) : Kp wA_fX8_joined wB_fX8_joined g0 (fX8_joined_p67 fu t0 g L) := by
  unfold fX8_joined_p67
  exact kp_some h_g
theorem w_fX8_joined_p117 (g0 : gT) (fu : Nat) (t0 : Int32) (g : gT) (L : lT) (h_g : FW wA_fX8_joined wB_fX8_joined g0 g) : Kp wA_fX8_joined wB_fX8_joined g0 (fX8_joined_p117 fu t0 g L) := by
  unfold fX8_joined_p117
  exact kp_some h_g
theorem w_fX8_joined_p112 (g0 : gT) (fu : Nat) (g : gT) (L : lT) (h_g : FW wA_fX8_joined wB_fX8_joined g0 g) : Kp wA_fX8_joined wB_fX8_joined g0 (fX8_joined_p112 fu g L) := by
  unfold fX8_joined_p112
  exact w_fX8_joined_p117 _ _ _ _ _ h_g
theorem w_fX8_joined (g0 : gT) (fu : Nat) (p1 : Int32) (p2 : Int32) (p3 : Int32) (g : gT) (L : lT) (h_g : FW wA_fX8_joined wB_fX8_joined g0 g) : Kp wA_fX8_joined wB_fX8_joined g0 (fX8_joined fu p1 p2 p3 g L) := by
  unfold fX8_joined
  refine kp_ite ?_ ?_
  ·
    refine kp_ite ?_ ?_
    ·
      exact w_fX8_joined_p102 _ _ _ _ h_g
    ·
      refine kp_ite ?_ ?_
      ·
        exact w_fX8_joined_p102 _ _ _ _ h_g
      ·
        exact w_fX8_joined_p103 _ _ _ _ _ h_g
  ·
    refine kp_ite ?_ ?_
    ·
      refine kp_ite ?_ ?_
      ·
        exact w_fX8_joined_p89 _ _ _ _ _ h_g
      ·
        exact w_fX8_joined_p89 _ _ _ _ _ h_g
    ·
      refine kp_ite ?_ ?_
      ·
        refine kp_ite ?_ ?_
        ·
          exact w_fX8_joined_p78 _ _ _ _ _ h_g
        ·
          exact w_fX8_joined_p78 _ _ _ _ _ h_g
      ·
        refine kp_ite ?_ ?_
        ·
          refine kp_ite ?_ ?_
          ·
            exact w_fX8_joined_p67 _ _ _ _ _ h_g
          ·
            refine kp_cnz ?_
            exact w_fX8_joined_p67 _ _ _ _ _ h_g
        ·
          refine kp_ite ?_ ?_
          ·
            exact kp_some h_g
          ·
            refine kp_ite ?_ ?_
            ·
              exact kp_some h_g
            ·
              refine kp_ite ?_ ?_
              ·
                exact kp_some h_g
              ·
                refine kp_ite ?_ ?_
                ·
                  refine kp_ite ?_ ?_
                  ·
                    exact w_fX8_joined_p117 _ _ _ _ _ h_g
                  ·
                    exact w_fX8_joined_p112 _ _ _ _ h_g
                ·
                  exact w_fX8_joined_p112 _ _ _ _ h_g
abbrev wA_fX8_value_3_48 : List (Nat × Nat) := []
abbrev wB_fX8_value_3_48 : List Nat := [21]
theorem w_fX8_value_3_48_p12 (g0 : gT) (fu : Nat) (g : gT) (L : lT) (h_g : FW wA_fX8_value_3_48 wB_fX8_value_3_48 g0 g) : Kp wA_fX8_value_3_48 wB_fX8_value_3_48 g0 (fX8_value_3_48_p12 fu g L) := by
  unfold fX8_value_3_48_p12
  exact kp_some h_g
theorem w_fX8_value_3_48_p188 (g0 : gT) (fu : Nat) (t0 : Int32) (g : gT) (L : lT) (h_g : FW wA_fX8_value_3_48 wB_fX8_value_3_48 g0 g) : Kp wA_fX8_value_3_48 wB_fX8_value_3_48 g0 (fX8_value_3_48_p188 fu t0 g L) := by
  unfold fX8_value_3_48_p188
  exact kp_some h_g
theorem w_fX8_value_3_48_p167 (g0 : gT) (fu : Nat) (k24 : Int32 × Int32 × gT × lT → Option ((Int32) × zS)) (v1 : Int32) (v3 : Int32) (v4 : Int32) (g : gT) (L : lT) (hk24 : ∀ v : Int32 × Int32 × gT × lT, FW wA_fX8_value_3_48 wB_fX8_value_3_48 g0 (v.2.2.1) → Kp wA_fX8_value_3_48 wB_fX8_value_3_48 g0 (k24 v)) (h_g : FW wA_fX8_value_3_48 wB_fX8_value_3_48 g0 g) : Kp wA_fX8_value_3_48 wB_fX8_value_3_48 g0 (fX8_value_3_48_p167 fu k24 v1 v3 v4 g L) := by
  unfold fX8_value_3_48_p167
  exact hk24 _ h_g
theorem w_fX8_value_3_48_p126 (g0 : gT) (fu : Nat) (k24 : Int32 × Int32 × gT × lT → Option ((Int32) × zS)) (v1 : Int32) (v3 : Int32) (v4 : Int32) (t0 : Int32) (t1 : Int32) (g : gT) (L : lT) (hk24 : ∀ v : Int32 × Int32 × gT × lT, FW wA_fX8_value_3_48 wB_fX8_value_3_48 g0 (v.2.2.1) → Kp wA_fX8_value_3_48 wB_fX8_value_3_48 g0 (k24 v)) (h_g : FW wA_fX8_value_3_48 wB_fX8_value_3_48 g0 g) : Kp wA_fX8_value_3_48 wB_fX8_value_3_48 g0 (fX8_value_3_48_p126 fu k24 v1 v3 v4 t0 t1 g L) := by
  unfold fX8_value_3_48_p126
  refine kp_ck ?_
  refine kp_stB (by decide) h_g (fun g16 h_g16 => ?_)
  exact w_fX8_value_3_48_p167 _ _ _ _ _ _ _ _ hk24 h_g16
theorem w_fX8_value_3_48_p82 (g0 : gT) (fu : Nat) (k24 : Int32 × Int32 × gT × lT → Option ((Int32) × zS)) (v1 : Int32) (v3 : Int32) (v4 : Int32) (t0 : Int32) (t1 : Int32) (g : gT) (L : lT) (hk24 : ∀ v : Int32 × Int32 × gT × lT, FW wA_fX8_value_3_48 wB_fX8_value_3_48 g0 (v.2.2.1) → Kp wA_fX8_value_3_48 wB_fX8_value_3_48 g0 (k24 v)) (h_g : FW wA_fX8_value_3_48 wB_fX8_value_3_48 g0 g) : Kp wA_fX8_value_3_48 wB_fX8_value_3_48 g0 (fX8_value_3_48_p82 fu k24 v1 v3 v4 t0 t1 g L) := by
  unfold fX8_value_3_48_p82
  refine kp_ck ?_
  refine kp_stB (by decide) h_g (fun g19 h_g19 => ?_)
  exact w_fX8_value_3_48_p167 _ _ _ _ _ _ _ _ hk24 h_g19
theorem w_fX8_value_3_48_s24 (g0 : gT) (fu : Nat) (v1 : Int32) (k24 : Int32 × Int32 × gT × lT → Option ((Int32) × zS)) (v3 : Int32) (v4 : Int32) (g : gT) (L : lT) (hk24 : ∀ v : Int32 × Int32 × gT × lT, FW wA_fX8_value_3_48 wB_fX8_value_3_48 g0 (v.2.2.1) → Kp wA_fX8_value_3_48 wB_fX8_value_3_48 g0 (k24 v)) (h_g : FW wA_fX8_value_3_48 wB_fX8_value_3_48 g0 g) : Kp wA_fX8_value_3_48 wB_fX8_value_3_48 g0 (fX8_value_3_48_s24 fu v1 k24 v3 v4 g L) := by
  unfold fX8_value_3_48_s24
  refine kp_ck ?_
  refine kp_ite ?_ ?_
  ·
    refine kp_ite ?_ ?_
    ·
      refine kp_ck ?_
      exact w_fX8_value_3_48_p188 _ _ _ _ _ h_g
    ·
      exact w_fX8_value_3_48_p188 _ _ _ _ _ h_g
  ·
    refine kp_ck ?_
    refine kp_lti (fun x6 => ?_)
    refine kp_ite ?_ ?_
    ·
      refine kp_ite ?_ ?_
      ·
        refine kp_ite ?_ ?_
        ·
          refine kp_ck ?_
          refine kp_ite ?_ ?_
          ·
            exact w_fX8_value_3_48_p126 _ _ _ _ _ _ _ _ _ _ hk24 h_g
          ·
            exact w_fX8_value_3_48_p126 _ _ _ _ _ _ _ _ _ _ hk24 h_g
        ·
          exact kp_some h_g
      ·
        refine kp_ite ?_ ?_
        ·
          refine kp_ck ?_
          refine kp_ck ?_
          refine kp_cb (w_fX8_joined _ _ _ _ _ _ _ FW.refl) rfl rfl h_g (fun x10 g11 L12 h_g11 => ?_)
          refine kp_ck ?_
          refine kp_stB (by decide) h_g11 (fun g14 h_g14 => ?_)
          exact w_fX8_value_3_48_p167 _ _ _ _ _ _ _ _ hk24 h_g14
        ·
          exact kp_some h_g
    ·
      refine kp_ite ?_ ?_
      ·
        refine kp_ite ?_ ?_
        ·
          refine kp_ck ?_
          exact w_fX8_value_3_48_p82 _ _ _ _ _ _ _ _ _ _ hk24 h_g
        ·
          exact w_fX8_value_3_48_p82 _ _ _ _ _ _ _ _ _ _ hk24 h_g
      ·
        exact kp_some h_g
theorem w_fX8_value_3_48_l24 (g0 : gT) (fu : Nat) (v1 : Int32) (v3 : Int32) (v4 : Int32) (g : gT) (L : lT) (h_g : FW wA_fX8_value_3_48 wB_fX8_value_3_48 g0 g) : Kp wA_fX8_value_3_48 wB_fX8_value_3_48 g0 (fX8_value_3_48_l24 fu v1 v3 v4 g L) := by
  unfold fX8_value_3_48_l24
  exact kp_loop (fun v => v.2.2.1) (fun k_ hk_ v hv_ => w_fX8_value_3_48_s24 _ _ _ _ _ _ _ _ hk_ hv_) h_g
theorem w_fX8_value_3_48 (g0 : gT) (fu : Nat) (p1 : Int32) (g : gT) (L : lT) (h_g : FW wA_fX8_value_3_48 wB_fX8_value_3_48 g0 g) : Kp wA_fX8_value_3_48 wB_fX8_value_3_48 g0 (fX8_value_3_48 fu p1 g L) := by
  unfold fX8_value_3_48
  refine kp_ite ?_ ?_
  ·
    exact w_fX8_value_3_48_p12 _ _ _ _ h_g
  ·
    refine kp_ite ?_ ?_
    ·
      refine kp_ck ?_
      refine kp_lti (fun x3 => ?_)
      exact w_fX8_value_3_48_l24 _ _ _ _ _ _ _ h_g
    ·
      exact w_fX8_value_3_48_p12 _ _ _ _ h_g
abbrev wA_fX1_overrun_8_les : List (Nat × Nat) := []
abbrev wB_fX1_overrun_8_les : List Nat := [21, 48]
theorem w_fX1_overrun_8_les_p151 (g0 : gT) (fu : Nat) (v3 : Int32) (v4 : Int32) (g : gT) (L : lT) (h_g : FW wA_fX1_overrun_8_les wB_fX1_overrun_8_les g0 g) : Kp wA_fX1_overrun_8_les wB_fX1_overrun_8_les g0 (fX1_overrun_8_les_p151 fu v3 v4 g L) := by
  unfold fX1_overrun_8_les_p151
  exact kp_some h_g
theorem w_fX1_overrun_8_les_p29 (g0 : gT) (fu : Nat) (v1 : Int32) (q2_ : Nat) (t0 : Int32) (g : gT) (L : lT) (h_g : FW wA_fX1_overrun_8_les wB_fX1_overrun_8_les g0 g) : Kp wA_fX1_overrun_8_les wB_fX1_overrun_8_les g0 (fX1_overrun_8_les_p29 fu v1 q2_ t0 g L) := by
  unfold fX1_overrun_8_les_p29
  refine kp_ck ?_
  refine kp_lti (fun x2 => ?_)
  refine kp_ite ?_ ?_
  ·
    exact w_fX1_overrun_8_les_p151 _ _ _ _ _ _ h_g
  ·
    refine kp_ck ?_
    refine kp_ck ?_
    refine kp_stB (by decide) h_g (fun g4 h_g4 => ?_)
    refine kp_ck ?_
    refine kp_ck ?_
    refine kp_stB (by decide) h_g4 (fun g5 h_g5 => ?_)
    refine kp_ck ?_
    refine kp_ck ?_
    refine kp_stB (by decide) h_g5 (fun g6 h_g6 => ?_)
    refine kp_ck ?_
    refine kp_ck ?_
    refine kp_stB (by decide) h_g6 (fun g7 h_g7 => ?_)
    refine kp_ck ?_
    refine kp_stB (by decide) h_g7 (fun g8 h_g8 => ?_)
    refine kp_ck ?_
    refine kp_stB (by decide) h_g8 (fun g9 h_g9 => ?_)
    refine kp_cb (w_fX8_value_3_48 _ _ _ _ _ FW.refl) rfl rfl h_g9 (fun x10 g11 L12 h_g11 => ?_)
    exact w_fX1_overrun_8_les_p151 _ _ _ _ _ _ h_g11
theorem w_fX1_overrun_8_les (g0 : gT) (fu : Nat) (p1 : Int32) (q1_ : Nat) (g : gT) (L : lT) (h_g : FW wA_fX1_overrun_8_les wB_fX1_overrun_8_les g0 g) : Kp wA_fX1_overrun_8_les wB_fX1_overrun_8_les g0 (fX1_overrun_8_les fu p1 q1_ g L) := by
  unfold fX1_overrun_8_les
  refine kp_ite ?_ ?_
  ·
    exact kp_some h_g
  ·
    refine kp_ite ?_ ?_
    ·
      exact w_fX1_overrun_8_les_p29 _ _ _ _ _ _ _ h_g
    ·
      exact w_fX1_overrun_8_les_p29 _ _ _ _ _ _ _ h_g
abbrev wA_fX1_runOne_8 : List (Nat × Nat) := []
abbrev wB_fX1_runOne_8 : List Nat := [21, 43, 44, 45, 46, 47, 48]
theorem w_fX1_runOne_8 (g0 : gT) (fu : Nat) (p1 : Int32) (g : gT) (L : lT) (h_g : FW wA_fX1_runOne_8 wB_fX1_runOne_8 g0 g) : Kp wA_fX1_runOne_8 wB_fX1_runOne_8 g0 (fX1_runOne_8 fu p1 g L) := by
  unfold fX1_runOne_8
  refine kp_ck ?_
  refine kp_ltn (fun q1 e_ => ?_)
  refine kp_cb (w_fX1_begin_8_les _ _ _ _ _ _ FW.refl) rfl rfl h_g (fun x2 g3 L4 h_g3 => ?_)
  refine kp_cb (w_fX1_overrun_8_les _ _ _ _ _ _ FW.refl) rfl rfl h_g3 (fun x6 g7 L8 h_g7 => ?_)
  refine kp_ck ?_
  refine kp_stB (by decide) h_g7 (fun g10 h_g10 => ?_)
  refine kp_ck ?_
  refine kp_ck ?_
  refine kp_ck ?_
  refine kp_stB (by decide) h_g10 (fun g11 h_g11 => ?_)
  exact kp_some h_g11
abbrev wA_fX1_runFrom_8 : List (Nat × Nat) := []
abbrev wB_fX1_runFrom_8 : List Nat := [21, 43, 44, 45, 46, 47, 48]
theorem w_fX1_runFrom_8_s2 (g0 : gT) (fu : Nat) (k2 : Int32 × gT × lT → Option ((Unit) × zS)) (v2 : Int32) (g : gT) (L : lT) (hk2 : ∀ v : Int32 × gT × lT, FW wA_fX1_runFrom_8 wB_fX1_runFrom_8 g0 (v.2.1) → Kp wA_fX1_runFrom_8 wB_fX1_runFrom_8 g0 (k2 v)) (h_g : FW wA_fX1_runFrom_8 wB_fX1_runFrom_8 g0 g) : Kp wA_fX1_runFrom_8 wB_fX1_runFrom_8 g0 (fX1_runFrom_8_s2 fu k2 v2 g L) := by
  unfold fX1_runFrom_8_s2
  refine kp_ite ?_ ?_
  ·
    exact kp_some h_g
  ·
    refine kp_cb (w_fX1_runOne_8 _ _ _ _ _ FW.refl) rfl rfl h_g (fun x2 g3 L4 h_g3 => ?_)
    exact hk2 _ h_g3
theorem w_fX1_runFrom_8_l2 (g0 : gT) (fu : Nat) (v2 : Int32) (g : gT) (L : lT) (h_g : FW wA_fX1_runFrom_8 wB_fX1_runFrom_8 g0 g) : Kp wA_fX1_runFrom_8 wB_fX1_runFrom_8 g0 (fX1_runFrom_8_l2 fu v2 g L) := by
  unfold fX1_runFrom_8_l2
  exact kp_loop (fun v => v.2.1) (fun k_ hk_ v hv_ => w_fX1_runFrom_8_s2 _ _ _ _ _ _ hk_ hv_) h_g
theorem w_fX1_runFrom_8 (g0 : gT) (fu : Nat) (p1 : Int32) (g : gT) (L : lT) (h_g : FW wA_fX1_runFrom_8 wB_fX1_runFrom_8 g0 g) : Kp wA_fX1_runFrom_8 wB_fX1_runFrom_8 g0 (fX1_runFrom_8 fu p1 g L) := by
  unfold fX1_runFrom_8
  exact w_fX1_runFrom_8_l2 _ _ _ _ _ h_g
abbrev wA_fX1_lostFrom_8 : List (Nat × Nat) := []
abbrev wB_fX1_lostFrom_8 : List Nat := [21, 43, 44, 45, 46, 47, 48]
theorem w_fX1_lostFrom_8_s2 (g0 : gT) (fu : Nat) (k2 : Int32 × gT × lT → Option ((Int32) × zS)) (v2 : Int32) (g : gT) (L : lT) (hk2 : ∀ v : Int32 × gT × lT, FW wA_fX1_lostFrom_8 wB_fX1_lostFrom_8 g0 (v.2.1) → Kp wA_fX1_lostFrom_8 wB_fX1_lostFrom_8 g0 (k2 v)) (h_g : FW wA_fX1_lostFrom_8 wB_fX1_lostFrom_8 g0 g) : Kp wA_fX1_lostFrom_8 wB_fX1_lostFrom_8 g0 (fX1_lostFrom_8_s2 fu k2 v2 g L) := by
  unfold fX1_lostFrom_8_s2
  refine kp_ite ?_ ?_
  ·
    refine kp_cb (w_fX1_lost_8 _ _ _ _ FW.refl) rfl rfl h_g (fun x2 g3 L4 h_g3 => ?_)
    exact kp_some h_g3
  ·
    refine kp_cb (w_fX1_runOne_8 _ _ _ _ _ FW.refl) rfl rfl h_g (fun x6 g7 L8 h_g7 => ?_)
    exact hk2 _ h_g7
theorem w_fX1_lostFrom_8_l2 (g0 : gT) (fu : Nat) (v2 : Int32) (g : gT) (L : lT) (h_g : FW wA_fX1_lostFrom_8 wB_fX1_lostFrom_8 g0 g) : Kp wA_fX1_lostFrom_8 wB_fX1_lostFrom_8 g0 (fX1_lostFrom_8_l2 fu v2 g L) := by
  unfold fX1_lostFrom_8_l2
  exact kp_loop (fun v => v.2.1) (fun k_ hk_ v hv_ => w_fX1_lostFrom_8_s2 _ _ _ _ _ _ hk_ hv_) h_g
theorem w_fX1_lostFrom_8 (g0 : gT) (fu : Nat) (p1 : Int32) (g : gT) (L : lT) (h_g : FW wA_fX1_lostFrom_8 wB_fX1_lostFrom_8 g0 g) : Kp wA_fX1_lostFrom_8 wB_fX1_lostFrom_8 g0 (fX1_lostFrom_8 fu p1 g L) := by
  unfold fX1_lostFrom_8
  exact w_fX1_lostFrom_8_l2 _ _ _ _ _ h_g
abbrev wA_fX1_lateOnes_8 : List (Nat × Nat) := []
abbrev wB_fX1_lateOnes_8 : List Nat := []
theorem w_fX1_lateOnes_8_p29 (g0 : gT) (fu : Nat) (k4 : Int32 × Int32 × gT × lT → Option ((Int32) × zS)) (v2 : Int32) (t0 : Int32) (t1 : Int32) (g : gT) (L : lT) (hk4 : ∀ v : Int32 × Int32 × gT × lT, FW wA_fX1_lateOnes_8 wB_fX1_lateOnes_8 g0 (v.2.2.1) → Kp wA_fX1_lateOnes_8 wB_fX1_lateOnes_8 g0 (k4 v)) (h_g : FW wA_fX1_lateOnes_8 wB_fX1_lateOnes_8 g0 g) : Kp wA_fX1_lateOnes_8 wB_fX1_lateOnes_8 g0 (fX1_lateOnes_8_p29 fu k4 v2 t0 t1 g L) := by
  unfold fX1_lateOnes_8_p29
  refine kp_lti (fun x6 => ?_)
  exact hk4 _ h_g
theorem w_fX1_lateOnes_8_s4 (g0 : gT) (fu : Nat) (k4 : Int32 × Int32 × gT × lT → Option ((Int32) × zS)) (v1 : Int32) (v2 : Int32) (g : gT) (L : lT) (hk4 : ∀ v : Int32 × Int32 × gT × lT, FW wA_fX1_lateOnes_8 wB_fX1_lateOnes_8 g0 (v.2.2.1) → Kp wA_fX1_lateOnes_8 wB_fX1_lateOnes_8 g0 (k4 v)) (h_g : FW wA_fX1_lateOnes_8 wB_fX1_lateOnes_8 g0 g) : Kp wA_fX1_lateOnes_8 wB_fX1_lateOnes_8 g0 (fX1_lateOnes_8_s4 fu k4 v1 v2 g L) := by
  unfold fX1_lateOnes_8_s4
  refine kp_ite ?_ ?_
  ·
    exact kp_some h_g
  ·
    refine kp_cb (w_fX1_late_8 _ _ _ _ _ FW.refl) rfl rfl h_g (fun x2 g3 L4 h_g3 => ?_)
    refine kp_ite ?_ ?_
    ·
      exact w_fX1_lateOnes_8_p29 _ _ _ _ _ _ _ _ hk4 h_g3
    ·
      exact w_fX1_lateOnes_8_p29 _ _ _ _ _ _ _ _ hk4 h_g3
theorem w_fX1_lateOnes_8_l4 (g0 : gT) (fu : Nat) (v1 : Int32) (v2 : Int32) (g : gT) (L : lT) (h_g : FW wA_fX1_lateOnes_8 wB_fX1_lateOnes_8 g0 g) : Kp wA_fX1_lateOnes_8 wB_fX1_lateOnes_8 g0 (fX1_lateOnes_8_l4 fu v1 v2 g L) := by
  unfold fX1_lateOnes_8_l4
  exact kp_loop (fun v => v.2.2.1) (fun k_ hk_ v hv_ => w_fX1_lateOnes_8_s4 _ _ _ _ _ _ _ hk_ hv_) h_g
theorem w_fX1_lateOnes_8 (g0 : gT) (fu : Nat) (g : gT) (L : lT) (h_g : FW wA_fX1_lateOnes_8 wB_fX1_lateOnes_8 g0 g) : Kp wA_fX1_lateOnes_8 wB_fX1_lateOnes_8 g0 (fX1_lateOnes_8 fu g L) := by
  unfold fX1_lateOnes_8
  exact w_fX1_lateOnes_8_l4 _ _ _ _ _ _ h_g
abbrev wA_fX1_latest_8 : List (Nat × Nat) := []
abbrev wB_fX1_latest_8 : List Nat := []
theorem w_fX1_latest_8_s4 (g0 : gT) (fu : Nat) (k4 : Int32 × Int32 × gT × lT → Option ((Int32) × zS)) (v1 : Int32) (v2 : Int32) (g : gT) (L : lT) (hk4 : ∀ v : Int32 × Int32 × gT × lT, FW wA_fX1_latest_8 wB_fX1_latest_8 g0 (v.2.2.1) → Kp wA_fX1_latest_8 wB_fX1_latest_8 g0 (k4 v)) (h_g : FW wA_fX1_latest_8 wB_fX1_latest_8 g0 g) : Kp wA_fX1_latest_8 wB_fX1_latest_8 g0 (fX1_latest_8_s4 fu k4 v1 v2 g L) := by
  unfold fX1_latest_8_s4
  refine kp_ite ?_ ?_
  ·
    exact kp_some h_g
  ·
    refine kp_cb (w_fX1_late_8 _ _ _ _ _ FW.refl) rfl rfl h_g (fun x2 g3 L4 h_g3 => ?_)
    refine kp_lti (fun x6 => ?_)
    exact hk4 _ h_g3
theorem w_fX1_latest_8_l4 (g0 : gT) (fu : Nat) (v1 : Int32) (v2 : Int32) (g : gT) (L : lT) (h_g : FW wA_fX1_latest_8 wB_fX1_latest_8 g0 g) : Kp wA_fX1_latest_8 wB_fX1_latest_8 g0 (fX1_latest_8_l4 fu v1 v2 g L) := by
  unfold fX1_latest_8_l4
  exact kp_loop (fun v => v.2.2.1) (fun k_ hk_ v hv_ => w_fX1_latest_8_s4 _ _ _ _ _ _ _ hk_ hv_) h_g
theorem w_fX1_latest_8 (g0 : gT) (fu : Nat) (g : gT) (L : lT) (h_g : FW wA_fX1_latest_8 wB_fX1_latest_8 g0 g) : Kp wA_fX1_latest_8 wB_fX1_latest_8 g0 (fX1_latest_8 fu g L) := by
  unfold fX1_latest_8
  exact w_fX1_latest_8_l4 _ _ _ _ _ _ h_g
abbrev wA_fX1_begunLater_8 : List (Nat × Nat) := []
abbrev wB_fX1_begunLater_8 : List Nat := []
theorem w_fX1_begunLater_8_p42 (g0 : gT) (fu : Nat) (k4 : Int32 × Int32 × gT × lT → Option ((Int32) × zS)) (v2 : Int32) (t0 : Int32) (t1 : Int32) (g : gT) (L : lT) (hk4 : ∀ v : Int32 × Int32 × gT × lT, FW wA_fX1_begunLater_8 wB_fX1_begunLater_8 g0 (v.2.2.1) → Kp wA_fX1_begunLater_8 wB_fX1_begunLater_8 g0 (k4 v)) (h_g : FW wA_fX1_begunLater_8 wB_fX1_begunLater_8 g0 g) : Kp wA_fX1_begunLater_8 wB_fX1_begunLater_8 g0 (fX1_begunLater_8_p42 fu k4 v2 t0 t1 g L) := by
  unfold fX1_begunLater_8_p42
  refine kp_lti (fun x3 => ?_)
  exact hk4 _ h_g
theorem w_fX1_begunLater_8_s4 (g0 : gT) (fu : Nat) (k4 : Int32 × Int32 × gT × lT → Option ((Int32) × zS)) (v1 : Int32) (v2 : Int32) (g : gT) (L : lT) (hk4 : ∀ v : Int32 × Int32 × gT × lT, FW wA_fX1_begunLater_8 wB_fX1_begunLater_8 g0 (v.2.2.1) → Kp wA_fX1_begunLater_8 wB_fX1_begunLater_8 g0 (k4 v)) (h_g : FW wA_fX1_begunLater_8 wB_fX1_begunLater_8 g0 g) : Kp wA_fX1_begunLater_8 wB_fX1_begunLater_8 g0 (fX1_begunLater_8_s4 fu k4 v1 v2 g L) := by
  unfold fX1_begunLater_8_s4
  refine kp_ite ?_ ?_
  ·
    exact kp_some h_g
  ·
    refine kp_ck ?_
    refine kp_ck ?_
    refine kp_ltn (fun q2 e_ => ?_)
    refine kp_ite ?_ ?_
    ·
      exact w_fX1_begunLater_8_p42 _ _ _ _ _ _ _ _ hk4 h_g
    ·
      exact w_fX1_begunLater_8_p42 _ _ _ _ _ _ _ _ hk4 h_g
theorem w_fX1_begunLater_8_l4 (g0 : gT) (fu : Nat) (v1 : Int32) (v2 : Int32) (g : gT) (L : lT) (h_g : FW wA_fX1_begunLater_8 wB_fX1_begunLater_8 g0 g) : Kp wA_fX1_begunLater_8 wB_fX1_begunLater_8 g0 (fX1_begunLater_8_l4 fu v1 v2 g L) := by
  unfold fX1_begunLater_8_l4
  exact kp_loop (fun v => v.2.2.1) (fun k_ hk_ v hv_ => w_fX1_begunLater_8_s4 _ _ _ _ _ _ _ hk_ hv_) h_g
theorem w_fX1_begunLater_8 (g0 : gT) (fu : Nat) (g : gT) (L : lT) (h_g : FW wA_fX1_begunLater_8 wB_fX1_begunLater_8 g0 g) : Kp wA_fX1_begunLater_8 wB_fX1_begunLater_8 g0 (fX1_begunLater_8 fu g L) := by
  unfold fX1_begunLater_8
  exact w_fX1_begunLater_8_l4 _ _ _ _ _ _ h_g
abbrev wA_fX1_onBits_8 : List (Nat × Nat) := []
abbrev wB_fX1_onBits_8 : List Nat := []
theorem w_fX1_onBits_8_p41 (g0 : gT) (fu : Nat) (k4 : Int32 × Int32 × gT × lT → Option ((Int32) × zS)) (v1 : Int32) (v2 : Int32) (v3 : Int32) (g : gT) (L : lT) (hk4 : ∀ v : Int32 × Int32 × gT × lT, FW wA_fX1_onBits_8 wB_fX1_onBits_8 g0 (v.2.2.1) → Kp wA_fX1_onBits_8 wB_fX1_onBits_8 g0 (k4 v)) (h_g : FW wA_fX1_onBits_8 wB_fX1_onBits_8 g0 g) : Kp wA_fX1_onBits_8 wB_fX1_onBits_8 g0 (fX1_onBits_8_p41 fu k4 v1 v2 v3 g L) := by
  unfold fX1_onBits_8_p41
  exact hk4 _ h_g
theorem w_fX1_onBits_8_s4 (g0 : gT) (fu : Nat) (v1 : Int32) (k4 : Int32 × Int32 × gT × lT → Option ((Int32) × zS)) (v2 : Int32) (v3 : Int32) (g : gT) (L : lT) (hk4 : ∀ v : Int32 × Int32 × gT × lT, FW wA_fX1_onBits_8 wB_fX1_onBits_8 g0 (v.2.2.1) → Kp wA_fX1_onBits_8 wB_fX1_onBits_8 g0 (k4 v)) (h_g : FW wA_fX1_onBits_8 wB_fX1_onBits_8 g0 g) : Kp wA_fX1_onBits_8 wB_fX1_onBits_8 g0 (fX1_onBits_8_s4 fu v1 k4 v2 v3 g L) := by
  unfold fX1_onBits_8_s4
  refine kp_ite ?_ ?_
  ·
    exact kp_some h_g
  ·
    refine kp_ck ?_
    refine kp_ite ?_ ?_
    ·
      exact w_fX1_onBits_8_p41 _ _ _ _ _ _ _ _ hk4 h_g
    ·
      refine kp_ck ?_
      refine kp_ite ?_ ?_
      ·
        exact w_fX1_onBits_8_p41 _ _ _ _ _ _ _ _ hk4 h_g
      ·
        refine kp_lti (fun x4 => ?_)
        exact w_fX1_onBits_8_p41 _ _ _ _ _ _ _ _ hk4 h_g
theorem w_fX1_onBits_8_l4 (g0 : gT) (fu : Nat) (v1 : Int32) (v2 : Int32) (v3 : Int32) (g : gT) (L : lT) (h_g : FW wA_fX1_onBits_8 wB_fX1_onBits_8 g0 g) : Kp wA_fX1_onBits_8 wB_fX1_onBits_8 g0 (fX1_onBits_8_l4 fu v1 v2 v3 g L) := by
  unfold fX1_onBits_8_l4
  exact kp_loop (fun v => v.2.2.1) (fun k_ hk_ v hv_ => w_fX1_onBits_8_s4 _ _ _ _ _ _ _ _ hk_ hv_) h_g
theorem w_fX1_onBits_8 (g0 : gT) (fu : Nat) (p1 : Int32) (g : gT) (L : lT) (h_g : FW wA_fX1_onBits_8 wB_fX1_onBits_8 g0 g) : Kp wA_fX1_onBits_8 wB_fX1_onBits_8 g0 (fX1_onBits_8 fu p1 g L) := by
  unfold fX1_onBits_8
  exact w_fX1_onBits_8_l4 _ _ _ _ _ _ _ h_g
abbrev wA_fX1_clashOf_8 : List (Nat × Nat) := []
abbrev wB_fX1_clashOf_8 : List Nat := []
theorem w_fX1_clashOf_8_p73 (g0 : gT) (fu : Nat) (t0 : Int32) (g : gT) (L : lT) (h_g : FW wA_fX1_clashOf_8 wB_fX1_clashOf_8 g0 g) : Kp wA_fX1_clashOf_8 wB_fX1_clashOf_8 g0 (fX1_clashOf_8_p73 fu t0 g L) := by
  unfold fX1_clashOf_8_p73
  exact kp_some h_g
theorem w_fX1_clashOf_8_p72 (g0 : gT) (fu : Nat) (g : gT) (L : lT) (h_g : FW wA_fX1_clashOf_8 wB_fX1_clashOf_8 g0 g) : Kp wA_fX1_clashOf_8 wB_fX1_clashOf_8 g0 (fX1_clashOf_8_p72 fu g L) := by
  unfold fX1_clashOf_8_p72
  exact w_fX1_clashOf_8_p73 _ _ _ _ _ h_g
theorem w_fX1_clashOf_8_p40 (g0 : gT) (fu : Nat) (v1 : Int32) (v2 : Int32) (v3 : Int32) (t0 : Int32) (g : gT) (L : lT) (h_g : FW wA_fX1_clashOf_8 wB_fX1_clashOf_8 g0 g) : Kp wA_fX1_clashOf_8 wB_fX1_clashOf_8 g0 (fX1_clashOf_8_p40 fu v1 v2 v3 t0 g L) := by
  unfold fX1_clashOf_8_p40
  refine kp_ite ?_ ?_
  ·
    exact w_fX1_clashOf_8_p72 _ _ _ _ h_g
  ·
    refine kp_ck ?_
    refine kp_ck ?_
    refine kp_ite ?_ ?_
    ·
      exact w_fX1_clashOf_8_p73 _ _ _ _ _ h_g
    ·
      exact w_fX1_clashOf_8_p72 _ _ _ _ h_g
theorem w_fX1_clashOf_8 (g0 : gT) (fu : Nat) (p1 : Int32) (p2 : Int32) (g : gT) (L : lT) (h_g : FW wA_fX1_clashOf_8 wB_fX1_clashOf_8 g0 g) : Kp wA_fX1_clashOf_8 wB_fX1_clashOf_8 g0 (fX1_clashOf_8 fu p1 p2 g L) := by
  unfold fX1_clashOf_8
  refine kp_ck ?_
  refine kp_ck ?_
  refine kp_lti (fun x1 => ?_)
  refine kp_ck ?_
  refine kp_ck ?_
  refine kp_ite ?_ ?_
  ·
    exact w_fX1_clashOf_8_p40 _ _ _ _ _ _ _ _ h_g
  ·
    exact w_fX1_clashOf_8_p40 _ _ _ _ _ _ _ _ h_g
abbrev wA_fX1_clashes_8 : List (Nat × Nat) := []
abbrev wB_fX1_clashes_8 : List Nat := []
theorem w_fX1_clashes_8_p46 (g0 : gT) (fu : Nat) (k4 : Int32 × Int32 × gT × lT → Option ((Int32) × zS)) (k19 : Int32 × Int32 × gT × lT → Option ((Int32) × zS)) (v2 : Int32) (v3 : Int32) (t0 : Int32) (t1 : Int32) (g : gT) (L : lT) (hk4 : ∀ v : Int32 × Int32 × gT × lT, FW wA_fX1_clashes_8 wB_fX1_clashes_8 g0 (v.2.2.1) → Kp wA_fX1_clashes_8 wB_fX1_clashes_8 g0 (k4 v)) (hk19 : ∀ v : Int32 × Int32 × gT × lT, FW wA_fX1_clashes_8 wB_fX1_clashes_8 g0 (v.2.2.1) → Kp wA_fX1_clashes_8 wB_fX1_clashes_8 g0 (k19 v)) (h_g : FW wA_fX1_clashes_8 wB_fX1_clashes_8 g0 g) : Kp wA_fX1_clashes_8 wB_fX1_clashes_8 g0 (fX1_clashes_8_p46 fu k4 k19 v2 v3 t0 t1 g L) := by
  unfold fX1_clashes_8_p46
  refine kp_lti (fun x8 => ?_)
  exact hk19 _ h_g
theorem w_fX1_clashes_8_s19 (g0 : gT) (fu : Nat) (k4 : Int32 × Int32 × gT × lT → Option ((Int32) × zS)) (v2 : Int32) (k19 : Int32 × Int32 × gT × lT → Option ((Int32) × zS)) (v1 : Int32) (v3 : Int32) (g : gT) (L : lT) (hk4 : ∀ v : Int32 × Int32 × gT × lT, FW wA_fX1_clashes_8 wB_fX1_clashes_8 g0 (v.2.2.1) → Kp wA_fX1_clashes_8 wB_fX1_clashes_8 g0 (k4 v)) (hk19 : ∀ v : Int32 × Int32 × gT × lT, FW wA_fX1_clashes_8 wB_fX1_clashes_8 g0 (v.2.2.1) → Kp wA_fX1_clashes_8 wB_fX1_clashes_8 g0 (k19 v)) (h_g : FW wA_fX1_clashes_8 wB_fX1_clashes_8 g0 g) : Kp wA_fX1_clashes_8 wB_fX1_clashes_8 g0 (fX1_clashes_8_s19 fu k4 v2 k19 v1 v3 g L) := by
  unfold fX1_clashes_8_s19
  refine kp_ite ?_ ?_
  ·
    exact hk4 _ h_g
  ·
    refine kp_cb (w_fX1_clashOf_8 _ _ _ _ _ _ FW.refl) rfl rfl h_g (fun x4 g5 L6 h_g5 => ?_)
    refine kp_ite ?_ ?_
    ·
      exact w_fX1_clashes_8_p46 _ _ _ _ _ _ _ _ _ _ hk4 hk19 h_g5
    ·
      exact w_fX1_clashes_8_p46 _ _ _ _ _ _ _ _ _ _ hk4 hk19 h_g5
theorem w_fX1_clashes_8_l19 (g0 : gT) (fu : Nat) (k4 : Int32 × Int32 × gT × lT → Option ((Int32) × zS)) (v2 : Int32) (v1 : Int32) (v3 : Int32) (g : gT) (L : lT) (hk4 : ∀ v : Int32 × Int32 × gT × lT, FW wA_fX1_clashes_8 wB_fX1_clashes_8 g0 (v.2.2.1) → Kp wA_fX1_clashes_8 wB_fX1_clashes_8 g0 (k4 v)) (h_g : FW wA_fX1_clashes_8 wB_fX1_clashes_8 g0 g) : Kp wA_fX1_clashes_8 wB_fX1_clashes_8 g0 (fX1_clashes_8_l19 fu k4 v2 v1 v3 g L) := by
  unfold fX1_clashes_8_l19
  exact kp_loop (fun v => v.2.2.1) (fun k_ hk_ v hv_ => w_fX1_clashes_8_s19 _ _ _ _ _ _ _ _ _ hk4 hk_ hv_) h_g
theorem w_fX1_clashes_8_s4 (g0 : gT) (fu : Nat) (k4 : Int32 × Int32 × gT × lT → Option ((Int32) × zS)) (v1 : Int32) (v2 : Int32) (g : gT) (L : lT) (hk4 : ∀ v : Int32 × Int32 × gT × lT, FW wA_fX1_clashes_8 wB_fX1_clashes_8 g0 (v.2.2.1) → Kp wA_fX1_clashes_8 wB_fX1_clashes_8 g0 (k4 v)) (h_g : FW wA_fX1_clashes_8 wB_fX1_clashes_8 g0 g) : Kp wA_fX1_clashes_8 wB_fX1_clashes_8 g0 (fX1_clashes_8_s4 fu k4 v1 v2 g L) := by
  unfold fX1_clashes_8_s4
  refine kp_ite ?_ ?_
  ·
    exact kp_some h_g
  ·
    refine kp_lti (fun x2 => ?_)
    exact w_fX1_clashes_8_l19 _ _ _ _ _ _ _ _ hk4 h_g
theorem w_fX1_clashes_8_l4 (g0 : gT) (fu : Nat) (v1 : Int32) (v2 : Int32) (g : gT) (L : lT) (h_g : FW wA_fX1_clashes_8 wB_fX1_clashes_8 g0 g) : Kp wA_fX1_clashes_8 wB_fX1_clashes_8 g0 (fX1_clashes_8_l4 fu v1 v2 g L) := by
  unfold fX1_clashes_8_l4
  exact kp_loop (fun v => v.2.2.1) (fun k_ hk_ v hv_ => w_fX1_clashes_8_s4 _ _ _ _ _ _ _ hk_ hv_) h_g
theorem w_fX1_clashes_8 (g0 : gT) (fu : Nat) (g : gT) (L : lT) (h_g : FW wA_fX1_clashes_8 wB_fX1_clashes_8 g0 g) : Kp wA_fX1_clashes_8 wB_fX1_clashes_8 g0 (fX1_clashes_8 fu g L) := by
  unfold fX1_clashes_8
  exact w_fX1_clashes_8_l4 _ _ _ _ _ _ h_g
abbrev wA_fX1_firstClash_8 : List (Nat × Nat) := []
abbrev wB_fX1_firstClash_8 : List Nat := []
theorem w_fX1_firstClash_8_p58 (g0 : gT) (fu : Nat) (k4 : Int32 × Int32 × gT × lT → Option ((Int32) × zS)) (k19 : Int32 × Int32 × gT × lT → Option ((Int32) × zS)) (v1 : Int32) (v2 : Int32) (v3 : Int32) (g : gT) (L : lT) (hk4 : ∀ v : Int32 × Int32 × gT × lT, FW wA_fX1_firstClash_8 wB_fX1_firstClash_8 g0 (v.2.2.1) → Kp wA_fX1_firstClash_8 wB_fX1_firstClash_8 g0 (k4 v)) (hk19 : ∀ v : Int32 × Int32 × gT × lT, FW wA_fX1_firstClash_8 wB_fX1_firstClash_8 g0 (v.2.2.1) → Kp wA_fX1_firstClash_8 wB_fX1_firstClash_8 g0 (k19 v)) (h_g : FW wA_fX1_firstClash_8 wB_fX1_firstClash_8 g0 g) : Kp wA_fX1_firstClash_8 wB_fX1_firstClash_8 g0 (fX1_firstClash_8_p58 fu k4 k19 v1 v2 v3 g L) := by
  unfold fX1_firstClash_8_p58
  exact hk19 _ h_g
theorem w_fX1_firstClash_8_p55 (g0 : gT) (fu : Nat) (k4 : Int32 × Int32 × gT × lT → Option ((Int32) × zS)) (k19 : Int32 × Int32 × gT × lT → Option ((Int32) × zS)) (v2 : Int32) (v3 : Int32) (v4 : Int32) (g : gT) (L : lT) (hk4 : ∀ v : Int32 × Int32 × gT × lT, FW wA_fX1_firstClash_8 wB_fX1_firstClash_8 g0 (v.2.2.1) → Kp wA_fX1_firstClash_8 wB_fX1_firstClash_8 g0 (k4 v)) (hk19 : ∀ v : Int32 × Int32 × gT × lT, FW wA_fX1_firstClash_8 wB_fX1_firstClash_8 g0 (v.2.2.1) → Kp wA_fX1_firstClash_8 wB_fX1_firstClash_8 g0 (k19 v)) (h_g : FW wA_fX1_firstClash_8 wB_fX1_firstClash_8 g0 g) : Kp wA_fX1_firstClash_8 wB_fX1_firstClash_8 g0 (fX1_firstClash_8_p55 fu k4 k19 v2 v3 v4 g L) := by
  unfold fX1_firstClash_8_p55
  exact w_fX1_firstClash_8_p58 _ _ _ _ _ _ _ _ _ hk4 hk19 h_g
theorem w_fX1_firstClash_8_s19 (g0 : gT) (fu : Nat) (k4 : Int32 × Int32 × gT × lT → Option ((Int32) × zS)) (v2 : Int32) (k19 : Int32 × Int32 × gT × lT → Option ((Int32) × zS)) (v1 : Int32) (v3 : Int32) (g : gT) (L : lT) (hk4 : ∀ v : Int32 × Int32 × gT × lT, FW wA_fX1_firstClash_8 wB_fX1_firstClash_8 g0 (v.2.2.1) → Kp wA_fX1_firstClash_8 wB_fX1_firstClash_8 g0 (k4 v)) (hk19 : ∀ v : Int32 × Int32 × gT × lT, FW wA_fX1_firstClash_8 wB_fX1_firstClash_8 g0 (v.2.2.1) → Kp wA_fX1_firstClash_8 wB_fX1_firstClash_8 g0 (k19 v)) (h_g : FW wA_fX1_firstClash_8 wB_fX1_firstClash_8 g0 g) : Kp wA_fX1_firstClash_8 wB_fX1_firstClash_8 g0 (fX1_firstClash_8_s19 fu k4 v2 k19 v1 v3 g L) := by
  unfold fX1_firstClash_8_s19
  refine kp_ite ?_ ?_
  ·
    exact hk4 _ h_g
  ·
    refine kp_cb (w_fX1_clashOf_8 _ _ _ _ _ _ FW.refl) rfl rfl h_g (fun x4 g5 L6 h_g5 => ?_)
    refine kp_ite ?_ ?_
    ·
      exact w_fX1_firstClash_8_p58 _ _ _ _ _ _ _ _ _ hk4 hk19 h_g5
    ·
      refine kp_ite ?_ ?_
      ·
        exact w_fX1_firstClash_8_p55 _ _ _ _ _ _ _ _ _ hk4 hk19 h_g5
      ·
        refine kp_ite ?_ ?_
        ·
          exact w_fX1_firstClash_8_p58 _ _ _ _ _ _ _ _ _ hk4 hk19 h_g5
        ·
          exact w_fX1_firstClash_8_p55 _ _ _ _ _ _ _ _ _ hk4 hk19 h_g5
theorem w_fX1_firstClash_8_l19 (g0 : gT) (fu : Nat) (k4 : Int32 × Int32 × gT × lT → Option ((Int32) × zS)) (v2 : Int32) (v1 : Int32) (v3 : Int32) (g : gT) (L : lT) (hk4 : ∀ v : Int32 × Int32 × gT × lT, FW wA_fX1_firstClash_8 wB_fX1_firstClash_8 g0 (v.2.2.1) → Kp wA_fX1_firstClash_8 wB_fX1_firstClash_8 g0 (k4 v)) (h_g : FW wA_fX1_firstClash_8 wB_fX1_firstClash_8 g0 g) : Kp wA_fX1_firstClash_8 wB_fX1_firstClash_8 g0 (fX1_firstClash_8_l19 fu k4 v2 v1 v3 g L) := by
  unfold fX1_firstClash_8_l19
  exact kp_loop (fun v => v.2.2.1) (fun k_ hk_ v hv_ => w_fX1_firstClash_8_s19 _ _ _ _ _ _ _ _ _ hk4 hk_ hv_) h_g
theorem w_fX1_firstClash_8_s4 (g0 : gT) (fu : Nat) (k4 : Int32 × Int32 × gT × lT → Option ((Int32) × zS)) (v1 : Int32) (v2 : Int32) (g : gT) (L : lT) (hk4 : ∀ v : Int32 × Int32 × gT × lT, FW wA_fX1_firstClash_8 wB_fX1_firstClash_8 g0 (v.2.2.1) → Kp wA_fX1_firstClash_8 wB_fX1_firstClash_8 g0 (k4 v)) (h_g : FW wA_fX1_firstClash_8 wB_fX1_firstClash_8 g0 g) : Kp wA_fX1_firstClash_8 wB_fX1_firstClash_8 g0 (fX1_firstClash_8_s4 fu k4 v1 v2 g L) := by
  unfold fX1_firstClash_8_s4
  refine kp_ite ?_ ?_
  ·
    exact kp_some h_g
  ·
    refine kp_lti (fun x2 => ?_)
    exact w_fX1_firstClash_8_l19 _ _ _ _ _ _ _ _ hk4 h_g
theorem w_fX1_firstClash_8_l4 (g0 : gT) (fu : Nat) (v1 : Int32) (v2 : Int32) (g : gT) (L : lT) (h_g : FW wA_fX1_firstClash_8 wB_fX1_firstClash_8 g0 g) : Kp wA_fX1_firstClash_8 wB_fX1_firstClash_8 g0 (fX1_firstClash_8_l4 fu v1 v2 g L) := by
  unfold fX1_firstClash_8_l4
  exact kp_loop (fun v => v.2.2.1) (fun k_ hk_ v hv_ => w_fX1_firstClash_8_s4 _ _ _ _ _ _ _ hk_ hv_) h_g
theorem w_fX1_firstClash_8 (g0 : gT) (fu : Nat) (g : gT) (L : lT) (h_g : FW wA_fX1_firstClash_8 wB_fX1_firstClash_8 g0 g) : Kp wA_fX1_firstClash_8 wB_fX1_firstClash_8 g0 (fX1_firstClash_8 fu g L) := by
  unfold fX1_firstClash_8
  exact w_fX1_firstClash_8_l4 _ _ _ _ _ _ h_g
abbrev wA_fX1_idleMinutes_8 : List (Nat × Nat) := []
abbrev wB_fX1_idleMinutes_8 : List Nat := []
theorem w_fX1_idleMinutes_8_s28 (g0 : gT) (fu : Nat) (k4 : Int32 × Int32 × gT × lT → Option ((Int32) × zS)) (v2 : Int32) (q3_ : Nat) (k28 : Int32 × Int32 × gT × lT → Option ((Int32) × zS)) (v1 : Int32) (v4 : Int32) (g : gT) (L : lT) (hk4 : ∀ v : Int32 × Int32 × gT × lT, FW wA_fX1_idleMinutes_8 wB_fX1_idleMinutes_8 g0 (v.2.2.1) → Kp wA_fX1_idleMinutes_8 wB_fX1_idleMinutes_8 g0 (k4 v)) (hk28 : ∀ v : Int32 × Int32 × gT × lT, FW wA_fX1_idleMinutes_8 wB_fX1_idleMinutes_8 g0 (v.2.2.1) → Kp wA_fX1_idleMinutes_8 wB_fX1_idleMinutes_8 g0 (k28 v)) (h_g : FW wA_fX1_idleMinutes_8 wB_fX1_idleMinutes_8 g0 g) : Kp wA_fX1_idleMinutes_8 wB_fX1_idleMinutes_8 g0 (fX1_idleMinutes_8_s28 fu k4 v2 q3_ k28 v1 v4 g L) := by
  unfold fX1_idleMinutes_8_s28
  refine kp_ite ?_ ?_
  ·
    exact hk4 _ h_g
  ·
    refine kp_ck ?_
    refine kp_lti (fun x4 => ?_)
    refine kp_ck ?_
    refine kp_cb (w_fX1_way_8 _ _ _ _ _ _ FW.refl) rfl rfl h_g (fun x5 g6 L7 h_g6 => ?_)
    refine kp_ck ?_
    refine kp_lti (fun x9 => ?_)
    refine kp_ck ?_
    refine kp_ltn (fun q10 e_ => ?_)
    refine kp_ck ?_
    refine kp_lti (fun x11 => ?_)
    exact hk28 _ h_g6
theorem w_fX1_idleMinutes_8_l28 (g0 : gT) (fu : Nat) (k4 : Int32 × Int32 × gT × lT → Option ((Int32) × zS)) (v2 : Int32) (q3_ : Nat) (v1 : Int32) (v4 : Int32) (g : gT) (L : lT) (hk4 : ∀ v : Int32 × Int32 × gT × lT, FW wA_fX1_idleMinutes_8 wB_fX1_idleMinutes_8 g0 (v.2.2.1) → Kp wA_fX1_idleMinutes_8 wB_fX1_idleMinutes_8 g0 (k4 v)) (h_g : FW wA_fX1_idleMinutes_8 wB_fX1_idleMinutes_8 g0 g) : Kp wA_fX1_idleMinutes_8 wB_fX1_idleMinutes_8 g0 (fX1_idleMinutes_8_l28 fu k4 v2 q3_ v1 v4 g L) := by
  unfold fX1_idleMinutes_8_l28
  exact kp_loop (fun v => v.2.2.1) (fun k_ hk_ v hv_ => w_fX1_idleMinutes_8_s28 _ _ _ _ _ _ _ _ _ _ hk4 hk_ hv_) h_g
theorem w_fX1_idleMinutes_8_s4 (g0 : gT) (fu : Nat) (k4 : Int32 × Int32 × gT × lT → Option ((Int32) × zS)) (v1 : Int32) (v2 : Int32) (g : gT) (L : lT) (hk4 : ∀ v : Int32 × Int32 × gT × lT, FW wA_fX1_idleMinutes_8 wB_fX1_idleMinutes_8 g0 (v.2.2.1) → Kp wA_fX1_idleMinutes_8 wB_fX1_idleMinutes_8 g0 (k4 v)) (h_g : FW wA_fX1_idleMinutes_8 wB_fX1_idleMinutes_8 g0 g) : Kp wA_fX1_idleMinutes_8 wB_fX1_idleMinutes_8 g0 (fX1_idleMinutes_8_s4 fu k4 v1 v2 g L) := by
  unfold fX1_idleMinutes_8_s4
  refine kp_ite ?_ ?_
  ·
    exact kp_some h_g
  ·
    refine kp_ck ?_
    refine kp_ltn (fun q2 e_ => ?_)
    exact w_fX1_idleMinutes_8_l28 _ _ _ _ _ _ _ _ _ hk4 h_g
theorem w_fX1_idleMinutes_8_l4 (g0 : gT) (fu : Nat) (v1 : Int32) (v2 : Int32) (g : gT) (L : lT) (h_g : FW wA_fX1_idleMinutes_8 wB_fX1_idleMinutes_8 g0 g) : Kp wA_fX1_idleMinutes_8 wB_fX1_idleMinutes_8 g0 (fX1_idleMinutes_8_l4 fu v1 v2 g L) := by
  unfold fX1_idleMinutes_8_l4
  exact kp_loop (fun v => v.2.2.1) (fun k_ hk_ v hv_ => w_fX1_idleMinutes_8_s4 _ _ _ _ _ _ _ hk_ hv_) h_g
theorem w_fX1_idleMinutes_8 (g0 : gT) (fu : Nat) (g : gT) (L : lT) (h_g : FW wA_fX1_idleMinutes_8 wB_fX1_idleMinutes_8 g0 g) : Kp wA_fX1_idleMinutes_8 wB_fX1_idleMinutes_8 g0 (fX1_idleMinutes_8 fu g L) := by
  unfold fX1_idleMinutes_8
  exact w_fX1_idleMinutes_8_l4 _ _ _ _ _ _ h_g
abbrev wA_fX3_dropFirstAct_6 : List (Nat × Nat) := [(6, 9)]
abbrev wB_fX3_dropFirstAct_6 : List Nat := [29, 30, 31]
theorem w_fX3_dropFirstAct_6 (g0 : gT) (fu : Nat) (g : gT) (L : lT) (h_g : FW wA_fX3_dropFirstAct_6 wB_fX3_dropFirstAct_6 g0 g) : Kp wA_fX3_dropFirstAct_6 wB_fX3_dropFirstAct_6 g0 (fX3_dropFirstAct_6 fu g L) := by
  unfold fX3_dropFirstAct_6
  refine kp_stA (by decide) h_g (fun g1 h_g1 => ?_)
  refine kp_stA (by decide) h_g1 (fun g2 h_g2 => ?_)
  refine kp_stA (by decide) h_g2 (fun g3 h_g3 => ?_)
  refine kp_stF (by decide) h_g3 (fun g4 h_g4 => ?_)
  exact kp_some h_g4
abbrev wA_fX3_keepAct_6 : List (Nat × Nat) := [(6, 9)]
abbrev wB_fX3_keepAct_6 : List Nat := [29, 30, 31]
theorem w_fX3_keepAct_6_p13 (g0 : gT) (fu : Nat) (v1 : Int32) (v2 : Int32) (v3 : Int32) (g : gT) (L : lT) (h_g : FW wA_fX3_keepAct_6 wB_fX3_keepAct_6 g0 g) : Kp wA_fX3_keepAct_6 wB_fX3_keepAct_6 g0 (fX3_keepAct_6_p13 fu v1 v2 v3 g L) := by
  unfold fX3_keepAct_6_p13
  refine kp_ck ?_
  refine kp_stB (by decide) h_g (fun g1 h_g1 => ?_)
  refine kp_ck ?_
  refine kp_stB (by decide) h_g1 (fun g2 h_g2 => ?_)
  refine kp_ck ?_
  refine kp_stB (by decide) h_g2 (fun g3 h_g3 => ?_)
  refine kp_stF (by decide) h_g3 (fun g4 h_g4 => ?_)
  exact kp_some h_g4
theorem w_fX3_keepAct_6 (g0 : gT) (fu : Nat) (p1 : Int32) (p2 : Int32) (p3 : Int32) (g : gT) (L : lT) (h_g : FW wA_fX3_keepAct_6 wB_fX3_keepAct_6 g0 g) : Kp wA_fX3_keepAct_6 wB_fX3_keepAct_6 g0 (fX3_keepAct_6 fu p1 p2 p3 g L) := by
  unfold fX3_keepAct_6
  refine kp_ite ?_ ?_
  ·
    exact w_fX3_keepAct_6_p13 _ _ _ _ _ _ _ h_g
  ·
    refine kp_cb (w_fX3_dropFirstAct_6 _ _ _ _ FW.refl) rfl rfl h_g (fun x6 g7 L8 h_g7 => ?_)
    exact w_fX3_keepAct_6_p13 _ _ _ _ _ _ _ h_g7
abbrev wA_fX3_row_6 : List (Nat × Nat) := []
abbrev wB_fX3_row_6 : List Nat := []
theorem w_fX3_row_6 (g0 : gT) (fu : Nat) (p1 : Int32) (g : gT) (L : lT) (h_g : FW wA_fX3_row_6 wB_fX3_row_6 g0 g) : Kp wA_fX3_row_6 wB_fX3_row_6 g0 (fX3_row_6 fu p1 g L) := by
  unfold fX3_row_6
  refine kp_ite ?_ ?_
  ·
    exact kp_some h_g
  ·
    refine kp_ite ?_ ?_
    ·
      exact kp_some h_g
    ·
      refine kp_ite ?_ ?_
      ·
        exact kp_some h_g
      ·
        exact kp_some h_g
abbrev wA_fX3_put_6 : List (Nat × Nat) := []
abbrev wB_fX3_put_6 : List Nat := [25, 26, 27, 28]
theorem w_fX3_put_6 (g0 : gT) (fu : Nat) (p1 : Int32) (p2 : Int32) (p3 : Int32) (g : gT) (L : lT) (h_g : FW wA_fX3_put_6 wB_fX3_put_6 g0 g) : Kp wA_fX3_put_6 wB_fX3_put_6 g0 (fX3_put_6 fu p1 p2 p3 g L) := by
  unfold fX3_put_6
  refine kp_cb (w_fX3_row_6 _ _ _ _ _ FW.refl) rfl rfl h_g (fun x1 g2 L3 h_g2 => ?_)
  refine kp_ckr (fun c1_ c2_ => ?_)
  refine kp_ck ?_
  refine kp_stB (sbB_mem (B := [25, 26, 27, 28]) rfl (q25 c1_ c2_)) h_g2 (fun g5 h_g5 => ?_)
  exact kp_some h_g5
abbrev wA_fX3_takeBackAct_6 : List (Nat × Nat) := [(6, 9), (6, 11)]
abbrev wB_fX3_takeBackAct_6 : List Nat := [25, 26, 27, 28]
theorem w_fX3_takeBackAct_6_p80 (g0 : gT) (fu : Nat) (g : gT) (L : lT) (h_g : FW wA_fX3_takeBackAct_6 wB_fX3_takeBackAct_6 g0 g) : Kp wA_fX3_takeBackAct_6 wB_fX3_takeBackAct_6 g0 (fX3_takeBackAct_6_p80 fu g L) := by
  unfold fX3_takeBackAct_6_p80
  exact kp_some h_g
theorem w_fX3_takeBackAct_6 (g0 : gT) (fu : Nat) (g : gT) (L : lT) (h_g : FW wA_fX3_takeBackAct_6 wB_fX3_takeBackAct_6 g0 g) : Kp wA_fX3_takeBackAct_6 wB_fX3_takeBackAct_6 g0 (fX3_takeBackAct_6 fu g L) := by
  unfold fX3_takeBackAct_6
  refine kp_ite ?_ ?_
  ·
    refine kp_stF (by decide) h_g (fun g2 h_g2 => ?_)
    refine kp_ck ?_
    refine kp_ite ?_ ?_
    ·
      refine kp_ck ?_
      refine kp_stF (by decide) h_g2 (fun g8 h_g8 => ?_)
      exact w_fX3_takeBackAct_6_p80 _ _ _ _ h_g8
    ·
      refine kp_ck ?_
      refine kp_ck ?_
      refine kp_ck ?_
      refine kp_cb (w_fX3_put_6 _ _ _ _ _ _ _ FW.refl) rfl rfl h_g2 (fun x4 g5 L6 h_g5 => ?_)
      exact w_fX3_takeBackAct_6_p80 _ _ _ _ h_g5
  ·
    exact kp_some h_g
abbrev wA_fX3_copy_6_7 : List (Nat × Nat) := [(6, 9), (6, 10), (6, 11)]
abbrev wB_fX3_copy_6_7 : List Nat := [25, 26, 27, 28, 29, 30, 31, 32, 33]
theorem w_fX3_copy_6_7 (g0 : gT) (fu : Nat) (g : gT) (L : lT) (h_g : FW wA_fX3_copy_6_7 wB_fX3_copy_6_7 g0 g) : Kp wA_fX3_copy_6_7 wB_fX3_copy_6_7 g0 (fX3_copy_6_7 fu g L) := by
  unfold fX3_copy_6_7
  refine kp_stA (by decide) h_g (fun g1 h_g1 => ?_)
  refine kp_stA (by decide) h_g1 (fun g2 h_g2 => ?_)
  refine kp_stA (by decide) h_g2 (fun g3 h_g3 => ?_)
  refine kp_stA (by decide) h_g3 (fun g4 h_g4 => ?_)
  refine kp_stA (by decide) h_g4 (fun g5 h_g5 => ?_)
  refine kp_stA (by decide) h_g5 (fun g6 h_g6 => ?_)
  refine kp_stA (by decide) h_g6 (fun g7 h_g7 => ?_)
  refine kp_stA (by decide) h_g7 (fun g8 h_g8 => ?_)
  refine kp_stA (by decide) h_g8 (fun g9 h_g9 => ?_)
  refine kp_stF (by decide) h_g9 (fun g10 h_g10 => ?_)
  refine kp_stF (by decide) h_g10 (fun g11 h_g11 => ?_)
  refine kp_stF (by decide) h_g11 (fun g12 h_g12 => ?_)
  exact kp_some h_g12
abbrev wA_fX3_copy_7_6 : List (Nat × Nat) := [(7, 9), (7, 10), (7, 11)]
abbrev wB_fX3_copy_7_6 : List Nat := [34, 35, 36, 37, 38, 39, 40, 41, 42]
theorem w_fX3_copy_7_6 (g0 : gT) (fu : Nat) (g : gT) (L : lT) (h_g : FW wA_fX3_copy_7_6 wB_fX3_copy_7_6 g0 g) : Kp wA_fX3_copy_7_6 wB_fX3_copy_7_6 g0 (fX3_copy_7_6 fu g L) := by
  unfold fX3_copy_7_6
  refine kp_stA (by decide) h_g (fun g1 h_g1 => ?_)
  refine kp_stA (by decide) h_g1 (fun g2 h_g2 => ?_)
  refine kp_stA (by decide) h_g2 (fun g3 h_g3 => ?_)
  refine kp_stA (by decide) h_g3 (fun g4 h_g4 => ?_)
  refine kp_stA (by decide) h_g4 (fun g5 h_g5 => ?_)
  refine kp_stA (by decide) h_g5 (fun g6 h_g6 => ?_)
  refine kp_stA (by decide) h_g6 (fun g7 h_g7 => ?_)
  refine kp_stA (by decide) h_g7 (fun g8 h_g8 => ?_)
  refine kp_stA (by decide) h_g8 (fun g9 h_g9 => ?_)
  refine kp_stF (by decide) h_g9 (fun g10 h_g10 => ?_)
  refine kp_stF (by decide) h_g10 (fun g11 h_g11 => ?_)
  refine kp_stF (by decide) h_g11 (fun g12 h_g12 => ?_)
  exact kp_some h_g12
abbrev wA_fX3_keepSeen_6 : List (Nat × Nat) := [(6, 10)]
abbrev wB_fX3_keepSeen_6 : List Nat := [32, 33]
theorem w_fX3_keepSeen_6_p39 (g0 : gT) (fu : Nat) (g : gT) (L : lT) (h_g : FW wA_fX3_keepSeen_6 wB_fX3_keepSeen_6 g0 g) : Kp wA_fX3_keepSeen_6 wB_fX3_keepSeen_6 g0 (fX3_keepSeen_6_p39 fu g L) := by
  unfold fX3_keepSeen_6_p39
  exact kp_some h_g
theorem w_fX3_keepSeen_6 (g0 : gT) (fu : Nat) (p1 : Int32) (p2 : Int32) (g : gT) (L : lT) (h_g : FW wA_fX3_keepSeen_6 wB_fX3_keepSeen_6 g0 g) : Kp wA_fX3_keepSeen_6 wB_fX3_keepSeen_6 g0 (fX3_keepSeen_6 fu p1 p2 g L) := by
  unfold fX3_keepSeen_6
  refine kp_ite ?_ ?_
  ·
    exact w_fX3_keepSeen_6_p39 _ _ _ _ h_g
  ·
    refine kp_ck ?_
    refine kp_stB (by decide) h_g (fun g2 h_g2 => ?_)
    refine kp_ck ?_
    refine kp_stB (by decide) h_g2 (fun g3 h_g3 => ?_)
    refine kp_stF (by decide) h_g3 (fun g4 h_g4 => ?_)
    exact w_fX3_keepSeen_6_p39 _ _ _ _ h_g4
abbrev wA_fX3_value_6 : List (Nat × Nat) := []
abbrev wB_fX3_value_6 : List Nat := []
theorem w_fX3_value_6 (g0 : gT) (fu : Nat) (p1 : Int32) (p2 : Int32) (g : gT) (L : lT) (h_g : FW wA_fX3_value_6 wB_fX3_value_6 g0 g) : Kp wA_fX3_value_6 wB_fX3_value_6 g0 (fX3_value_6 fu p1 p2 g L) := by
  unfold fX3_value_6
  refine kp_cb (w_fX3_row_6 _ _ _ _ _ FW.refl) rfl rfl h_g (fun x1 g2 L3 h_g2 => ?_)
  refine kp_ckr (fun c1_ c2_ => ?_)
  refine kp_ck ?_
  exact kp_some h_g2
abbrev wA_fX3_start_6_1 : List (Nat × Nat) := [(6, 9), (6, 10), (6, 11)]
abbrev wB_fX3_start_6_1 : List Nat := [25, 26, 27, 28]
theorem w_fX3_start_6_1_s2 (g0 : gT) (fu : Nat) (k2 : Int32 × gT × lT → Option ((Unit) × zS)) (v2 : Int32) (g : gT) (L : lT) (hk2 : ∀ v : Int32 × gT × lT, FW wA_fX3_start_6_1 wB_fX3_start_6_1 g0 (v.2.1) → Kp wA_fX3_start_6_1 wB_fX3_start_6_1 g0 (k2 v)) (h_g : FW wA_fX3_start_6_1 wB_fX3_start_6_1 g0 g) : Kp wA_fX3_start_6_1 wB_fX3_start_6_1 g0 (fX3_start_6_1_s2 fu k2 v2 g L) := by
  unfold fX3_start_6_1_s2
  refine kp_ite ?_ ?_
  ·
    refine kp_stF (by decide) h_g (fun g2 h_g2 => ?_)
    refine kp_stF (by decide) h_g2 (fun g3 h_g3 => ?_)
    refine kp_stF (by decide) h_g3 (fun g4 h_g4 => ?_)
    exact kp_some h_g4
  ·
    refine kp_ck ?_
    refine kp_ltn (fun q5 e_ => ?_)
    refine kp_ck ?_
    refine kp_stB (by decide) h_g (fun g6 h_g6 => ?_)
    refine kp_ck ?_
    refine kp_stB (by decide) h_g6 (fun g7 h_g7 => ?_)
    refine kp_ck ?_
    refine kp_stB (by decide) h_g7 (fun g8 h_g8 => ?_)
    refine kp_ck ?_
    refine kp_stB (by decide) h_g8 (fun g9 h_g9 => ?_)
    exact hk2 _ h_g9
theorem w_fX3_start_6_1_l2 (g0 : gT) (fu : Nat) (v2 : Int32) (g : gT) (L : lT) (h_g : FW wA_fX3_start_6_1 wB_fX3_start_6_1 g0 g) : Kp wA_fX3_start_6_1 wB_fX3_start_6_1 g0 (fX3_start_6_1_l2 fu v2 g L) := by
  unfold fX3_start_6_1_l2
  exact kp_loop (fun v => v.2.1) (fun k_ hk_ v hv_ => w_fX3_start_6_1_s2 _ _ _ _ _ _ hk_ hv_) h_g
theorem w_fX3_start_6_1 (g0 : gT) (fu : Nat) (g : gT) (L : lT) (h_g : FW wA_fX3_start_6_1 wB_fX3_start_6_1 g0 g) : Kp wA_fX3_start_6_1 wB_fX3_start_6_1 g0 (fX3_start_6_1 fu g L) := by
  unfold fX3_start_6_1
  exact w_fX3_start_6_1_l2 _ _ _ _ _ h_g
abbrev wA_fX10_keepEnds_9 : List (Nat × Nat) := []
abbrev wB_fX10_keepEnds_9 : List Nat := [21, 43, 44, 45, 46, 47, 48, 49]
theorem w_fX10_keepEnds_9 (g0 : gT) (fu : Nat) (g : gT) (L : lT) (h_g : FW wA_fX10_keepEnds_9 wB_fX10_keepEnds_9 g0 g) : Kp wA_fX10_keepEnds_9 wB_fX10_keepEnds_9 g0 (fX10_keepEnds_9 fu g L) := by
  unfold fX10_keepEnds_9
  refine kp_cb (w_fX1_runFrom_8 _ _ _ _ _ FW.refl) rfl rfl h_g (fun x1 g2 L3 h_g2 => ?_)
  refine kp_stA (by decide) h_g2 (fun g5 h_g5 => ?_)
  exact kp_some h_g5
abbrev wA_fX10_runMore_9 : List (Nat × Nat) := [(8, 9)]
abbrev wB_fX10_runMore_9 : List Nat := [21, 25, 43, 44, 45, 46, 47, 48]
theorem w_fX10_runMore_9 (g0 : gT) (fu : Nat) (p1 : Int32) (p2 : Int32) (g : gT) (L : lT) (h_g : FW wA_fX10_runMore_9 wB_fX10_runMore_9 g0 g) : Kp wA_fX10_runMore_9 wB_fX10_runMore_9 g0 (fX10_runMore_9 fu p1 p2 g L) := by
  unfold fX10_runMore_9
  refine kp_ck ?_
  refine kp_lti (fun x1 => ?_)
  refine kp_ck ?_
  refine kp_stB (by decide) h_g (fun g2 h_g2 => ?_)
  refine kp_stF (by decide) h_g2 (fun g3 h_g3 => ?_)
  refine kp_cb (w_fX1_runFrom_8 _ _ _ _ _ FW.refl) rfl rfl h_g3 (fun x4 g5 L6 h_g5 => ?_)
  refine kp_stF (by decide) h_g5 (fun g8 h_g8 => ?_)
  refine kp_ck ?_
  refine kp_stB (by decide) h_g8 (fun g9 h_g9 => ?_)
  exact kp_some h_g9
abbrev wA_fX10_lessonCount_9 : List (Nat × Nat) := []
abbrev wB_fX10_lessonCount_9 : List Nat := []
theorem w_fX10_lessonCount_9 (g0 : gT) (fu : Nat) (g : gT) (L : lT) (h_g : FW wA_fX10_lessonCount_9 wB_fX10_lessonCount_9 g0 g) : Kp wA_fX10_lessonCount_9 wB_fX10_lessonCount_9 g0 (fX10_lessonCount_9 fu g L) := by
  unfold fX10_lessonCount_9
  exact kp_some h_g
abbrev wA_fX10_laterBits_9 : List (Nat × Nat) := []
abbrev wB_fX10_laterBits_9 : List Nat := []
theorem w_fX10_laterBits_9_p36 (g0 : gT) (fu : Nat) (k4 : Int32 × Int32 × gT × lT → Option ((Int32) × zS)) (v1 : Int32) (v2 : Int32) (g : gT) (L : lT) (hk4 : ∀ v : Int32 × Int32 × gT × lT, FW wA_fX10_laterBits_9 wB_fX10_laterBits_9 g0 (v.2.2.1) → Kp wA_fX10_laterBits_9 wB_fX10_laterBits_9 g0 (k4 v)) (h_g : FW wA_fX10_laterBits_9 wB_fX10_laterBits_9 g0 g) : Kp wA_fX10_laterBits_9 wB_fX10_laterBits_9 g0 (fX10_laterBits_9_p36 fu k4 v1 v2 g L) := by
  unfold fX10_laterBits_9_p36
  exact hk4 _ h_g
theorem w_fX10_laterBits_9_s4 (g0 : gT) (fu : Nat) (k4 : Int32 × Int32 × gT × lT → Option ((Int32) × zS)) (v1 : Int32) (v2 : Int32) (g : gT) (L : lT) (hk4 : ∀ v : Int32 × Int32 × gT × lT, FW wA_fX10_laterBits_9 wB_fX10_laterBits_9 g0 (v.2.2.1) → Kp wA_fX10_laterBits_9 wB_fX10_laterBits_9 g0 (k4 v)) (h_g : FW wA_fX10_laterBits_9 wB_fX10_laterBits_9 g0 g) : Kp wA_fX10_laterBits_9 wB_fX10_laterBits_9 g0 (fX10_laterBits_9_s4 fu k4 v1 v2 g L) := by
  unfold fX10_laterBits_9_s4
  refine kp_cb (w_fX10_lessonCount_9 _ _ _ _ FW.refl) rfl rfl h_g (fun x1 g2 L3 h_g2 => ?_)
  refine kp_ite ?_ ?_
  ·
    exact kp_some h_g2
  ·
    refine kp_ck ?_
    refine kp_ck ?_
    refine kp_ite ?_ ?_
    ·
      exact w_fX10_laterBits_9_p36 _ _ _ _ _ _ _ hk4 h_g2
    ·
      refine kp_lti (fun x7 => ?_)
      exact w_fX10_laterBits_9_p36 _ _ _ _ _ _ _ hk4 h_g2
theorem w_fX10_laterBits_9_l4 (g0 : gT) (fu : Nat) (v1 : Int32) (v2 : Int32) (g : gT) (L : lT) (h_g : FW wA_fX10_laterBits_9 wB_fX10_laterBits_9 g0 g) : Kp wA_fX10_laterBits_9 wB_fX10_laterBits_9 g0 (fX10_laterBits_9_l4 fu v1 v2 g L) := by
  unfold fX10_laterBits_9_l4
  exact kp_loop (fun v => v.2.2.1) (fun k_ hk_ v hv_ => w_fX10_laterBits_9_s4 _ _ _ _ _ _ _ hk_ hv_) h_g
theorem w_fX10_laterBits_9 (g0 : gT) (fu : Nat) (g : gT) (L : lT) (h_g : FW wA_fX10_laterBits_9 wB_fX10_laterBits_9 g0 g) : Kp wA_fX10_laterBits_9 wB_fX10_laterBits_9 g0 (fX10_laterBits_9 fu g L) := by
  unfold fX10_laterBits_9
  exact w_fX10_laterBits_9_l4 _ _ _ _ _ _ h_g
abbrev wA_fX10_laterMinutes_9 : List (Nat × Nat) := []
abbrev wB_fX10_laterMinutes_9 : List Nat := []
theorem w_fX10_laterMinutes_9_s4 (g0 : gT) (fu : Nat) (k4 : Int32 × Int32 × gT × lT → Option ((Int32) × zS)) (v1 : Int32) (v2 : Int32) (g : gT) (L : lT) (hk4 : ∀ v : Int32 × Int32 × gT × lT, FW wA_fX10_laterMinutes_9 wB_fX10_laterMinutes_9 g0 (v.2.2.1) → Kp wA_fX10_laterMinutes_9 wB_fX10_laterMinutes_9 g0 (k4 v)) (h_g : FW wA_fX10_laterMinutes_9 wB_fX10_laterMinutes_9 g0 g) : Kp wA_fX10_laterMinutes_9 wB_fX10_laterMinutes_9 g0 (fX10_laterMinutes_9_s4 fu k4 v1 v2 g L) := by
  unfold fX10_laterMinutes_9_s4
  refine kp_cb (w_fX10_lessonCount_9 _ _ _ _ FW.refl) rfl rfl h_g (fun x1 g2 L3 h_g2 => ?_)
  refine kp_ite ?_ ?_
  ·
    exact kp_some h_g2
  ·
    refine kp_ck ?_
    refine kp_ck ?_
    refine kp_lti (fun x6 => ?_)
    exact hk4 _ h_g2
theorem w_fX10_laterMinutes_9_l4 (g0 : gT) (fu : Nat) (v1 : Int32) (v2 : Int32) (g : gT) (L : lT) (h_g : FW wA_fX10_laterMinutes_9 wB_fX10_laterMinutes_9 g0 g) : Kp wA_fX10_laterMinutes_9 wB_fX10_laterMinutes_9 g0 (fX10_laterMinutes_9_l4 fu v1 v2 g L) := by
  unfold fX10_laterMinutes_9_l4
  exact kp_loop (fun v => v.2.2.1) (fun k_ hk_ v hv_ => w_fX10_laterMinutes_9_s4 _ _ _ _ _ _ _ hk_ hv_) h_g
theorem w_fX10_laterMinutes_9 (g0 : gT) (fu : Nat) (g : gT) (L : lT) (h_g : FW wA_fX10_laterMinutes_9 wB_fX10_laterMinutes_9 g0 g) : Kp wA_fX10_laterMinutes_9 wB_fX10_laterMinutes_9 g0 (fX10_laterMinutes_9 fu g L) := by
  unfold fX10_laterMinutes_9
  exact w_fX10_laterMinutes_9_l4 _ _ _ _ _ _ h_g
abbrev wA_fX10_leastThatReaches_9 : List (Nat × Nat) := [(8, 9)]
abbrev wB_fX10_leastThatReaches_9 : List Nat := [21, 25, 43, 44, 45, 46, 47, 48, 49]
theorem w_fX10_leastThatReaches_9_s6 (g0 : gT) (fu : Nat) (v1 : Int32) (v2 : Int32) (k6 : Int32 × gT × lT → Option ((Int32) × zS)) (v3 : Int32) (g : gT) (L : lT) (hk6 : ∀ v : Int32 × gT × lT, FW wA_fX10_leastThatReaches_9 wB_fX10_leastThatReaches_9 g0 (v.2.1) → Kp wA_fX10_leastThatReaches_9 wB_fX10_leastThatReaches_9 g0 (k6 v)) (h_g : FW wA_fX10_leastThatReaches_9 wB_fX10_leastThatReaches_9 g0 g) : Kp wA_fX10_leastThatReaches_9 wB_fX10_leastThatReaches_9 g0 (fX10_leastThatReaches_9_s6 fu v1 v2 k6 v3 g L) := by
  unfold fX10_leastThatReaches_9_s6
  refine kp_ite ?_ ?_
  ·
    exact kp_some h_g
  ·
    refine kp_cb (w_fX10_runMore_9 _ _ _ _ _ _ FW.refl) rfl rfl h_g (fun x6 g7 L8 h_g7 => ?_)
    refine kp_ck ?_
    refine kp_ck ?_
    refine kp_ite ?_ ?_
    ·
      exact hk6 _ h_g7
    ·
      exact kp_some h_g7
theorem w_fX10_leastThatReaches_9_l6 (g0 : gT) (fu : Nat) (v1 : Int32) (v2 : Int32) (v3 : Int32) (g : gT) (L : lT) (h_g : FW wA_fX10_leastThatReaches_9 wB_fX10_leastThatReaches_9 g0 g) : Kp wA_fX10_leastThatReaches_9 wB_fX10_leastThatReaches_9 g0 (fX10_leastThatReaches_9_l6 fu v1 v2 v3 g L) := by
  unfold fX10_leastThatReaches_9_l6
  exact kp_loop (fun v => v.2.1) (fun k_ hk_ v hv_ => w_fX10_leastThatReaches_9_s6 _ _ _ _ _ _ _ _ hk_ hv_) h_g
theorem w_fX10_leastThatReaches_9 (g0 : gT) (fu : Nat) (p1 : Int32) (p2 : Int32) (g : gT) (L : lT) (h_g : FW wA_fX10_leastThatReaches_9 wB_fX10_leastThatReaches_9 g0 g) : Kp wA_fX10_leastThatReaches_9 wB_fX10_leastThatReaches_9 g0 (fX10_leastThatReaches_9 fu p1 p2 g L) := by
  unfold fX10_leastThatReaches_9
  refine kp_cb (w_fX10_keepEnds_9 _ _ _ _ FW.refl) rfl rfl h_g (fun x1 g2 L3 h_g2 => ?_)
  exact w_fX10_leastThatReaches_9_l6 _ _ _ _ _ _ _ h_g2
abbrev wA_fX10_mostThatDies_9 : List (Nat × Nat) := [(8, 9)]
abbrev wB_fX10_mostThatDies_9 : List Nat := [21, 25, 43, 44, 45, 46, 47, 48, 49]
theorem w_fX10_mostThatDies_9_s7 (g0 : gT) (fu : Nat) (v1 : Int32) (k7 : Int32 × gT × lT → Option ((Int32) × zS)) (v2 : Int32) (g : gT) (L : lT) (hk7 : ∀ v : Int32 × gT × lT, FW wA_fX10_mostThatDies_9 wB_fX10_mostThatDies_9 g0 (v.2.1) → Kp wA_fX10_mostThatDies_9 wB_fX10_mostThatDies_9 g0 (k7 v)) (h_g : FW wA_fX10_mostThatDies_9 wB_fX10_mostThatDies_9 g0 g) : Kp wA_fX10_mostThatDies_9 wB_fX10_mostThatDies_9 g0 (fX10_mostThatDies_9_s7 fu v1 k7 v2 g L) := by
  unfold fX10_mostThatDies_9_s7
  refine kp_ite ?_ ?_
  ·
    exact kp_some h_g
  ·
    refine kp_cb (w_fX10_runMore_9 _ _ _ _ _ _ FW.refl) rfl rfl h_g (fun x6 g7 L8 h_g7 => ?_)
    refine kp_cb (w_fX10_laterBits_9 _ _ _ _ FW.refl) rfl rfl h_g7 (fun x10 g11 L12 h_g11 => ?_)
    refine kp_ite ?_ ?_
    ·
      exact kp_some h_g11
    ·
      exact hk7 _ h_g11
theorem w_fX10_mostThatDies_9_l7 (g0 : gT) (fu : Nat) (v1 : Int32) (v2 : Int32) (g : gT) (L : lT) (h_g : FW wA_fX10_mostThatDies_9 wB_fX10_mostThatDies_9 g0 g) : Kp wA_fX10_mostThatDies_9 wB_fX10_mostThatDies_9 g0 (fX10_mostThatDies_9_l7 fu v1 v2 g L) := by
  unfold fX10_mostThatDies_9_l7
  exact kp_loop (fun v => v.2.1) (fun k_ hk_ v hv_ => w_fX10_mostThatDies_9_s7 _ _ _ _ _ _ _ hk_ hv_) h_g
theorem w_fX10_mostThatDies_9 (g0 : gT) (fu : Nat) (p1 : Int32) (g : gT) (L : lT) (h_g : FW wA_fX10_mostThatDies_9 wB_fX10_mostThatDies_9 g0 g) : Kp wA_fX10_mostThatDies_9 wB_fX10_mostThatDies_9 g0 (fX10_mostThatDies_9 fu p1 g L) := by
  unfold fX10_mostThatDies_9
  refine kp_cb (w_fX10_keepEnds_9 _ _ _ _ FW.refl) rfl rfl h_g (fun x1 g2 L3 h_g2 => ?_)
  exact w_fX10_mostThatDies_9_l7 _ _ _ _ _ _ h_g2
abbrev wA_fX4_clear_13 : List (Nat × Nat) := [(13, 0)]
abbrev wB_fX4_clear_13 : List Nat := []
theorem w_fX4_clear_13 (g0 : gT) (fu : Nat) (g : gT) (L : lT) (h_g : FW wA_fX4_clear_13 wB_fX4_clear_13 g0 g) : Kp wA_fX4_clear_13 wB_fX4_clear_13 g0 (fX4_clear_13 fu g L) := by
  unfold fX4_clear_13
  refine kp_stF (by decide) h_g (fun g1 h_g1 => ?_)
  exact kp_some h_g1
abbrev wA_fX10_exchange_9 : List (Nat × Nat) := []
abbrev wB_fX10_exchange_9 : List Nat := [25]
theorem w_fX10_exchange_9 (g0 : gT) (fu : Nat) (p1 : Int32) (p2 : Int32) (g : gT) (L : lT) (h_g : FW wA_fX10_exchange_9 wB_fX10_exchange_9 g0 g) : Kp wA_fX10_exchange_9 wB_fX10_exchange_9 g0 (fX10_exchange_9 fu p1 p2 g L) := by
  unfold fX10_exchange_9
  refine kp_ck ?_
  refine kp_lti (fun x1 => ?_)
  refine kp_ck ?_
  refine kp_ck ?_
  refine kp_stB (by decide) h_g (fun g2 h_g2 => ?_)
  refine kp_ck ?_
  refine kp_stB (by decide) h_g2 (fun g3 h_g3 => ?_)
  exact kp_some h_g3
abbrev wA_fX4_told_13 : List (Nat × Nat) := []
abbrev wB_fX4_told_13 : List Nat := []
theorem w_fX4_told_13_p24 (g0 : gT) (fu : Nat) (t0 : Int32) (g : gT) (L : lT) (h_g : FW wA_fX4_told_13 wB_fX4_told_13 g0 g) : Kp wA_fX4_told_13 wB_fX4_told_13 g0 (fX4_told_13_p24 fu t0 g L) := by
  unfold fX4_told_13_p24
  exact kp_some h_g
theorem w_fX4_told_13 (g0 : gT) (fu : Nat) (p1 : Int32) (g : gT) (L : lT) (h_g : FW wA_fX4_told_13 wB_fX4_told_13 g0 g) : Kp wA_fX4_told_13 wB_fX4_told_13 g0 (fX4_told_13 fu p1 g L) := by
  unfold fX4_told_13
  refine kp_ite ?_ ?_
  ·
    exact kp_some h_g
  ·
    refine kp_ite ?_ ?_
    ·
      exact w_fX4_told_13_p24 _ _ _ _ _ h_g
    ·
      exact w_fX4_told_13_p24 _ _ _ _ _ h_g
abbrev wA_fX4_offer_13 : List (Nat × Nat) := [(13, 0), (13, 1), (13, 2)]
abbrev wB_fX4_offer_13 : List Nat := []
theorem w_fX4_offer_13_p46 (g0 : gT) (fu : Nat) (g : gT) (L : lT) (h_g : FW wA_fX4_offer_13 wB_fX4_offer_13 g0 g) : Kp wA_fX4_offer_13 wB_fX4_offer_13 g0 (fX4_offer_13_p46 fu g L) := by
  unfold fX4_offer_13_p46
  exact kp_some h_g
theorem w_fX4_offer_13_p31 (g0 : gT) (fu : Nat) (v1 : Int32) (v2 : Int32) (g : gT) (L : lT) (h_g : FW wA_fX4_offer_13 wB_fX4_offer_13 g0 g) : Kp wA_fX4_offer_13 wB_fX4_offer_13 g0 (fX4_offer_13_p31 fu v1 v2 g L) := by
  unfold fX4_offer_13_p31
  refine kp_stF (by decide) h_g (fun g1 h_g1 => ?_)
  refine kp_stF (by decide) h_g1 (fun g2 h_g2 => ?_)
  refine kp_stF (by decide) h_g2 (fun g3 h_g3 => ?_)
  exact w_fX4_offer_13_p46 _ _ _ _ h_g3
theorem w_fX4_offer_13 (g0 : gT) (fu : Nat) (p1 : Int32) (p2 : Int32) (g : gT) (L : lT) (h_g : FW wA_fX4_offer_13 wB_fX4_offer_13 g0 g) : Kp wA_fX4_offer_13 wB_fX4_offer_13 g0 (fX4_offer_13 fu p1 p2 g L) := by
  unfold fX4_offer_13
  refine kp_ite ?_ ?_
  ·
    exact w_fX4_offer_13_p31 _ _ _ _ _ _ h_g
  ·
    refine kp_ite ?_ ?_
    ·
      exact w_fX4_offer_13_p31 _ _ _ _ _ _ h_g
    ·
      refine kp_ite ?_ ?_
      ·
        refine kp_ite ?_ ?_
        ·
          exact w_fX4_offer_13_p46 _ _ _ _ h_g
        ·
          exact w_fX4_offer_13_p31 _ _ _ _ _ _ h_g
      ·
        exact w_fX4_offer_13_p46 _ _ _ _ h_g
abbrev wA_fX10_swapped_9 : List (Nat × Nat) := [(13, 0), (13, 1), (13, 2)]
abbrev wB_fX10_swapped_9 : List Nat := [21, 25, 43, 44, 45, 46, 47, 48]
theorem w_fX10_swapped_9_p121 (g0 : gT) (fu : Nat) (t0 : Int32) (g : gT) (L : lT) (h_g : FW wA_fX10_swapped_9 wB_fX10_swapped_9 g0 g) : Kp wA_fX10_swapped_9 wB_fX10_swapped_9 g0 (fX10_swapped_9_p121 fu t0 g L) := by
  unfold fX10_swapped_9_p121
  exact kp_some h_g
theorem w_fX10_swapped_9_p120 (g0 : gT) (fu : Nat) (g : gT) (L : lT) (h_g : FW wA_fX10_swapped_9 wB_fX10_swapped_9 g0 g) : Kp wA_fX10_swapped_9 wB_fX10_swapped_9 g0 (fX10_swapped_9_p120 fu g L) := by
  unfold fX10_swapped_9_p120
  exact w_fX10_swapped_9_p121 _ _ _ _ _ h_g
theorem w_fX10_swapped_9_s31 (g0 : gT) (fu : Nat) (k18 : Int32 × gT × lT → Option ((Int32) × zS)) (v1 : Int32) (v2 : Int32) (v3 : Int32) (k31 : Int32 × gT × lT → Option ((Int32) × zS)) (v4 : Int32) (g : gT) (L : lT) (hk18 : ∀ v : Int32 × gT × lT, FW wA_fX10_swapped_9 wB_fX10_swapped_9 g0 (v.2.1) → Kp wA_fX10_swapped_9 wB_fX10_swapped_9 g0 (k18 v)) (hk31 : ∀ v : Int32 × gT × lT, FW wA_fX10_swapped_9 wB_fX10_swapped_9 g0 (v.2.1) → Kp wA_fX10_swapped_9 wB_fX10_swapped_9 g0 (k31 v)) (h_g : FW wA_fX10_swapped_9 wB_fX10_swapped_9 g0 g) : Kp wA_fX10_swapped_9 wB_fX10_swapped_9 g0 (fX10_swapped_9_s31 fu k18 v1 v2 v3 k31 v4 g L) := by
  unfold fX10_swapped_9_s31
  refine kp_cb (w_fX10_lessonCount_9 _ _ _ _ FW.refl) rfl rfl h_g (fun x21 g22 L23 h_g22 => ?_)
  refine kp_ite ?_ ?_
  ·
    exact hk18 _ h_g22
  ·
    refine kp_cb (w_fX10_exchange_9 _ _ _ _ _ _ FW.refl) rfl rfl h_g22 (fun x26 g27 L28 h_g27 => ?_)
    refine kp_cb (w_fX1_lostFrom_8 _ _ _ _ _ FW.refl) rfl rfl h_g27 (fun x30 g31 L32 h_g31 => ?_)
    refine kp_cb (w_fX4_offer_13 _ _ _ _ _ _ FW.refl) rfl rfl h_g31 (fun x34 g35 L36 h_g35 => ?_)
    refine kp_cb (w_fX10_exchange_9 _ _ _ _ _ _ FW.refl) rfl rfl h_g35 (fun x38 g39 L40 h_g39 => ?_)
    exact hk31 _ h_g39
theorem w_fX10_swapped_9_l31 (g0 : gT) (fu : Nat) (k18 : Int32 × gT × lT → Option ((Int32) × zS)) (v1 : Int32) (v2 : Int32) (v3 : Int32) (v4 : Int32) (g : gT) (L : lT) (hk18 : ∀ v : Int32 × gT × lT, FW wA_fX10_swapped_9 wB_fX10_swapped_9 g0 (v.2.1) → Kp wA_fX10_swapped_9 wB_fX10_swapped_9 g0 (k18 v)) (h_g : FW wA_fX10_swapped_9 wB_fX10_swapped_9 g0 g) : Kp wA_fX10_swapped_9 wB_fX10_swapped_9 g0 (fX10_swapped_9_l31 fu k18 v1 v2 v3 v4 g L) := by
  unfold fX10_swapped_9_l31
  exact kp_loop (fun v => v.2.1) (fun k_ hk_ v hv_ => w_fX10_swapped_9_s31 _ _ _ _ _ _ _ _ _ _ hk18 hk_ hv_) h_g
theorem w_fX10_swapped_9_s18 (g0 : gT) (fu : Nat) (v1 : Int32) (v2 : Int32) (k18 : Int32 × gT × lT → Option ((Int32) × zS)) (v3 : Int32) (g : gT) (L : lT) (hk18 : ∀ v : Int32 × gT × lT, FW wA_fX10_swapped_9 wB_fX10_swapped_9 g0 (v.2.1) → Kp wA_fX10_swapped_9 wB_fX10_swapped_9 g0 (k18 v)) (h_g : FW wA_fX10_swapped_9 wB_fX10_swapped_9 g0 g) : Kp wA_fX10_swapped_9 wB_fX10_swapped_9 g0 (fX10_swapped_9_s18 fu v1 v2 k18 v3 g L) := by
  unfold fX10_swapped_9_s18
  refine kp_cb (w_fX10_lessonCount_9 _ _ _ _ FW.refl) rfl rfl h_g (fun x9 g10 L11 h_g10 => ?_)
  refine kp_ite ?_ ?_
  ·
    refine kp_ite ?_ ?_
    ·
      exact w_fX10_swapped_9_p120 _ _ _ _ h_g10
    ·
      refine kp_ite ?_ ?_
      ·
        exact w_fX10_swapped_9_p120 _ _ _ _ h_g10
      ·
        refine kp_cb (w_fX4_told_13 _ _ _ _ _ FW.refl) rfl rfl h_g10 (fun x16 g17 L18 h_g17 => ?_)
        exact w_fX10_swapped_9_p121 _ _ _ _ _ h_g17
  ·
    refine kp_lti (fun x20 => ?_)
    exact w_fX10_swapped_9_l31 _ _ _ _ _ _ _ _ _ hk18 h_g10
theorem w_fX10_swapped_9_l18 (g0 : gT) (fu : Nat) (v1 : Int32) (v2 : Int32) (v3 : Int32) (g : gT) (L : lT) (h_g : FW wA_fX10_swapped_9 wB_fX10_swapped_9 g0 g) : Kp wA_fX10_swapped_9 wB_fX10_swapped_9 g0 (fX10_swapped_9_l18 fu v1 v2 v3 g L) := by
  unfold fX10_swapped_9_l18
  exact kp_loop (fun v => v.2.1) (fun k_ hk_ v hv_ => w_fX10_swapped_9_s18 _ _ _ _ _ _ _ _ hk_ hv_) h_g
theorem w_fX10_swapped_9 (g0 : gT) (fu : Nat) (p1 : Int32) (g : gT) (L : lT) (h_g : FW wA_fX10_swapped_9 wB_fX10_swapped_9 g0 g) : Kp wA_fX10_swapped_9 wB_fX10_swapped_9 g0 (fX10_swapped_9 fu p1 g L) := by
  unfold fX10_swapped_9
  refine kp_cb (w_fX1_lostFrom_8 _ _ _ _ _ FW.refl) rfl rfl h_g (fun x1 g2 L3 h_g2 => ?_)
  refine kp_cb (w_fX4_clear_13 _ _ _ _ FW.refl) rfl rfl h_g2 (fun x5 g6 L7 h_g6 => ?_)
  exact w_fX10_swapped_9_l18 _ _ _ _ _ _ _ h_g6
abbrev wA_fX11_mostOf : List (Nat × Nat) := []
abbrev wB_fX11_mostOf : List Nat := []
theorem w_fX11_mostOf (g0 : gT) (fu : Nat) (p1 : Int32) (g : gT) (L : lT) (h_g : FW wA_fX11_mostOf wB_fX11_mostOf g0 g) : Kp wA_fX11_mostOf wB_fX11_mostOf g0 (fX11_mostOf fu p1 g L) := by
  unfold fX11_mostOf
  refine kp_ite ?_ ?_
  ·
    exact kp_some h_g
  ·
    refine kp_ite ?_ ?_
    ·
      exact kp_some h_g
    ·
      refine kp_ite ?_ ?_
      ·
        exact kp_some h_g
      ·
        exact kp_some h_g
abbrev wA_fX10_leastBy_9 : List (Nat × Nat) := [(13, 0), (13, 1), (13, 2)]
abbrev wB_fX10_leastBy_9 : List Nat := [21, 25, 26, 27, 28, 43, 44, 45, 46, 47, 48]
theorem w_fX10_leastBy_9_s29 (g0 : gT) (fu : Nat) (v1 : Int32) (v2 : Int32) (v3 : Int32) (v4 : Int32) (k29 : Int32 × gT × lT → Option ((Int32) × zS)) (v5 : Int32) (g : gT) (L : lT) (hk29 : ∀ v : Int32 × gT × lT, FW wA_fX10_leastBy_9 wB_fX10_leastBy_9 g0 (v.2.1) → Kp wA_fX10_leastBy_9 wB_fX10_leastBy_9 g0 (k29 v)) (h_g : FW wA_fX10_leastBy_9 wB_fX10_leastBy_9 g0 g) : Kp wA_fX10_leastBy_9 wB_fX10_leastBy_9 g0 (fX10_leastBy_9_s29 fu v1 v2 v3 v4 k29 v5 g L) := by
  unfold fX10_leastBy_9_s29
  refine kp_cb (w_fX11_mostOf _ _ _ _ _ FW.refl) rfl rfl h_g (fun x13 g14 L15 h_g14 => ?_)
  refine kp_ite ?_ ?_
  ·
    refine kp_cb (w_fX3_put_6 _ _ _ _ _ _ _ FW.refl) rfl rfl h_g14 (fun x18 g19 L20 h_g19 => ?_)
    refine kp_cb (w_fX4_told_13 _ _ _ _ _ FW.refl) rfl rfl h_g19 (fun x22 g23 L24 h_g23 => ?_)
    exact kp_some h_g23
  ·
    refine kp_cb (w_fX3_put_6 _ _ _ _ _ _ _ FW.refl) rfl rfl h_g14 (fun x26 g27 L28 h_g27 => ?_)
    refine kp_cb (w_fX1_lostFrom_8 _ _ _ _ _ FW.refl) rfl rfl h_g27 (fun x30 g31 L32 h_g31 => ?_)
    refine kp_cb (w_fX4_offer_13 _ _ _ _ _ _ FW.refl) rfl rfl h_g31 (fun x34 g35 L36 h_g35 => ?_)
    exact hk29 _ h_g35
theorem w_fX10_leastBy_9_l29 (g0 : gT) (fu : Nat) (v1 : Int32) (v2 : Int32) (v3 : Int32) (v4 : Int32) (v5 : Int32) (g : gT) (L : lT) (h_g : FW wA_fX10_leastBy_9 wB_fX10_leastBy_9 g0 g) : Kp wA_fX10_leastBy_9 wB_fX10_leastBy_9 g0 (fX10_leastBy_9_l29 fu v1 v2 v3 v4 v5 g L) := by
  unfold fX10_leastBy_9_l29
  exact kp_loop (fun v => v.2.1) (fun k_ hk_ v hv_ => w_fX10_leastBy_9_s29 _ _ _ _ _ _ _ _ _ _ hk_ hv_) h_g
theorem w_fX10_leastBy_9 (g0 : gT) (fu : Nat) (p1 : Int32) (p2 : Int32) (p3 : Int32) (g : gT) (L : lT) (h_g : FW wA_fX10_leastBy_9 wB_fX10_leastBy_9 g0 g) : Kp wA_fX10_leastBy_9 wB_fX10_leastBy_9 g0 (fX10_leastBy_9 fu p1 p2 p3 g L) := by
  unfold fX10_leastBy_9
  refine kp_cb (w_fX3_value_6 _ _ _ _ _ _ FW.refl) rfl rfl h_g (fun x1 g2 L3 h_g2 => ?_)
  refine kp_cb (w_fX1_runFrom_8 _ _ _ _ _ FW.refl) rfl rfl h_g2 (fun x5 g6 L7 h_g6 => ?_)
  refine kp_cb (w_fX4_clear_13 _ _ _ _ FW.refl) rfl rfl h_g6 (fun x9 g10 L11 h_g10 => ?_)
  exact w_fX10_leastBy_9_l29 _ _ _ _ _ _ _ _ _ h_g10
abbrev wA_fX10_lostWithout_9 : List (Nat × Nat) := []
abbrev wB_fX10_lostWithout_9 : List Nat := [21, 25, 43, 44, 45, 46, 47, 48]
theorem w_fX10_lostWithout_9 (g0 : gT) (fu : Nat) (p1 : Int32) (p2 : Int32) (g : gT) (L : lT) (h_g : FW wA_fX10_lostWithout_9 wB_fX10_lostWithout_9 g0 g) : Kp wA_fX10_lostWithout_9 wB_fX10_lostWithout_9 g0 (fX10_lostWithout_9 fu p1 p2 g L) := by
  unfold fX10_lostWithout_9
  refine kp_ck ?_
  refine kp_lti (fun x1 => ?_)
  refine kp_ck ?_
  refine kp_lti (fun x2 => ?_)
  refine kp_ck ?_
  refine kp_stB (by decide) h_g (fun g3 h_g3 => ?_)
  refine kp_ck ?_
  refine kp_stB (by decide) h_g3 (fun g4 h_g4 => ?_)
  refine kp_cb (w_fX1_lostFrom_8 _ _ _ _ _ FW.refl) rfl rfl h_g4 (fun x5 g6 L7 h_g6 => ?_)
  refine kp_ck ?_
  refine kp_stB (by decide) h_g6 (fun g9 h_g9 => ?_)
  refine kp_ck ?_
  refine kp_stB (by decide) h_g9 (fun g10 h_g10 => ?_)
  exact kp_some h_g10
abbrev wA_fX10_withoutOne_9 : List (Nat × Nat) := [(13, 0), (13, 1), (13, 2)]
abbrev wB_fX10_withoutOne_9 : List Nat := [21, 25, 43, 44, 45, 46, 47, 48]
theorem w_fX10_withoutOne_9_s9 (g0 : gT) (fu : Nat) (k9 : Int32 × gT × lT → Option ((Int32) × zS)) (v1 : Int32) (g : gT) (L : lT) (hk9 : ∀ v : Int32 × gT × lT, FW wA_fX10_withoutOne_9 wB_fX10_withoutOne_9 g0 (v.2.1) → Kp wA_fX10_withoutOne_9 wB_fX10_withoutOne_9 g0 (k9 v)) (h_g : FW wA_fX10_withoutOne_9 wB_fX10_withoutOne_9 g0 g) : Kp wA_fX10_withoutOne_9 wB_fX10_withoutOne_9 g0 (fX10_withoutOne_9_s9 fu k9 v1 g L) := by
  unfold fX10_withoutOne_9_s9
  refine kp_cb (w_fX10_lessonCount_9 _ _ _ _ FW.refl) rfl rfl h_g (fun x5 g6 L7 h_g6 => ?_)
  refine kp_ite ?_ ?_
  ·
    refine kp_cb (w_fX4_told_13 _ _ _ _ _ FW.refl) rfl rfl h_g6 (fun x10 g11 L12 h_g11 => ?_)
    exact kp_some h_g11
  ·
    refine kp_cb (w_fX10_lostWithout_9 _ _ _ _ _ _ FW.refl) rfl rfl h_g6 (fun x14 g15 L16 h_g15 => ?_)
    refine kp_cb (w_fX4_offer_13 _ _ _ _ _ _ FW.refl) rfl rfl h_g15 (fun x18 g19 L20 h_g19 => ?_)
    exact hk9 _ h_g19
theorem w_fX10_withoutOne_9_l9 (g0 : gT) (fu : Nat) (v1 : Int32) (g : gT) (L : lT) (h_g : FW wA_fX10_withoutOne_9 wB_fX10_withoutOne_9 g0 g) : Kp wA_fX10_withoutOne_9 wB_fX10_withoutOne_9 g0 (fX10_withoutOne_9_l9 fu v1 g L) := by
  unfold fX10_withoutOne_9_l9
  exact kp_loop (fun v => v.2.1) (fun k_ hk_ v hv_ => w_fX10_withoutOne_9_s9 _ _ _ _ _ _ hk_ hv_) h_g
theorem w_fX10_withoutOne_9 (g0 : gT) (fu : Nat) (g : gT) (L : lT) (h_g : FW wA_fX10_withoutOne_9 wB_fX10_withoutOne_9 g0 g) : Kp wA_fX10_withoutOne_9 wB_fX10_withoutOne_9 g0 (fX10_withoutOne_9 fu g L) := by
  unfold fX10_withoutOne_9
  refine kp_cb (w_fX4_clear_13 _ _ _ _ FW.refl) rfl rfl h_g (fun x1 g2 L3 h_g2 => ?_)
  exact w_fX10_withoutOne_9_l9 _ _ _ _ _ h_g2
abbrev wA_fX10_withoutTwo_9 : List (Nat × Nat) := [(13, 0), (13, 1), (13, 2)]
abbrev wB_fX10_withoutTwo_9 : List Nat := [21, 25, 43, 44, 45, 46, 47, 48]
theorem w_fX10_withoutTwo_9_s21 (g0 : gT) (fu : Nat) (k9 : Int32 × gT × lT → Option ((Int32) × zS)) (v1 : Int32) (v2 : Int32) (k21 : Int32 × gT × lT → Option ((Int32) × zS)) (v3 : Int32) (g : gT) (L : lT) (hk9 : ∀ v : Int32 × gT × lT, FW wA_fX10_withoutTwo_9 wB_fX10_withoutTwo_9 g0 (v.2.1) → Kp wA_fX10_withoutTwo_9 wB_fX10_withoutTwo_9 g0 (k9 v)) (hk21 : ∀ v : Int32 × gT × lT, FW wA_fX10_withoutTwo_9 wB_fX10_withoutTwo_9 g0 (v.2.1) → Kp wA_fX10_withoutTwo_9 wB_fX10_withoutTwo_9 g0 (k21 v)) (h_g : FW wA_fX10_withoutTwo_9 wB_fX10_withoutTwo_9 g0 g) : Kp wA_fX10_withoutTwo_9 wB_fX10_withoutTwo_9 g0 (fX10_withoutTwo_9_s21 fu k9 v1 v2 k21 v3 g L) := by
  unfold fX10_withoutTwo_9_s21
  refine kp_cb (w_fX10_lessonCount_9 _ _ _ _ FW.refl) rfl rfl h_g (fun x15 g16 L17 h_g16 => ?_)
  refine kp_ite ?_ ?_
  ·
    exact hk9 _ h_g16
  ·
    refine kp_cb (w_fX10_lostWithout_9 _ _ _ _ _ _ FW.refl) rfl rfl h_g16 (fun x20 g21 L22 h_g21 => ?_)
    refine kp_cb (w_fX4_offer_13 _ _ _ _ _ _ FW.refl) rfl rfl h_g21 (fun x24 g25 L26 h_g25 => ?_)
    exact hk21 _ h_g25
theorem w_fX10_withoutTwo_9_l21 (g0 : gT) (fu : Nat) (k9 : Int32 × gT × lT → Option ((Int32) × zS)) (v1 : Int32) (v2 : Int32) (v3 : Int32) (g : gT) (L : lT) (hk9 : ∀ v : Int32 × gT × lT, FW wA_fX10_withoutTwo_9 wB_fX10_withoutTwo_9 g0 (v.2.1) → Kp wA_fX10_withoutTwo_9 wB_fX10_withoutTwo_9 g0 (k9 v)) (h_g : FW wA_fX10_withoutTwo_9 wB_fX10_withoutTwo_9 g0 g) : Kp wA_fX10_withoutTwo_9 wB_fX10_withoutTwo_9 g0 (fX10_withoutTwo_9_l21 fu k9 v1 v2 v3 g L) := by
  unfold fX10_withoutTwo_9_l21
  exact kp_loop (fun v => v.2.1) (fun k_ hk_ v hv_ => w_fX10_withoutTwo_9_s21 _ _ _ _ _ _ _ _ _ hk9 hk_ hv_) h_g
theorem w_fX10_withoutTwo_9_s9 (g0 : gT) (fu : Nat) (v1 : Int32) (k9 : Int32 × gT × lT → Option ((Int32) × zS)) (v2 : Int32) (g : gT) (L : lT) (hk9 : ∀ v : Int32 × gT × lT, FW wA_fX10_withoutTwo_9 wB_fX10_withoutTwo_9 g0 (v.2.1) → Kp wA_fX10_withoutTwo_9 wB_fX10_withoutTwo_9 g0 (k9 v)) (h_g : FW wA_fX10_withoutTwo_9 wB_fX10_withoutTwo_9 g0 g) : Kp wA_fX10_withoutTwo_9 wB_fX10_withoutTwo_9 g0 (fX10_withoutTwo_9_s9 fu v1 k9 v2 g L) := by
  unfold fX10_withoutTwo_9_s9
  refine kp_cb (w_fX10_lessonCount_9 _ _ _ _ FW.refl) rfl rfl h_g (fun x5 g6 L7 h_g6 => ?_)
  refine kp_ite ?_ ?_
  ·
    refine kp_cb (w_fX4_told_13 _ _ _ _ _ FW.refl) rfl rfl h_g6 (fun x10 g11 L12 h_g11 => ?_)
    exact kp_some h_g11
  ·
    refine kp_lti (fun x14 => ?_)
    exact w_fX10_withoutTwo_9_l21 _ _ _ _ _ _ _ _ hk9 h_g6
theorem w_fX10_withoutTwo_9_l9 (g0 : gT) (fu : Nat) (v1 : Int32) (v2 : Int32) (g : gT) (L : lT) (h_g : FW wA_fX10_withoutTwo_9 wB_fX10_withoutTwo_9 g0 g) : Kp wA_fX10_withoutTwo_9 wB_fX10_withoutTwo_9 g0 (fX10_withoutTwo_9_l9 fu v1 v2 g L) := by
  unfold fX10_withoutTwo_9_l9
  exact kp_loop (fun v => v.2.1) (fun k_ hk_ v hv_ => w_fX10_withoutTwo_9_s9 _ _ _ _ _ _ _ hk_ hv_) h_g
theorem w_fX10_withoutTwo_9 (g0 : gT) (fu : Nat) (p1 : Int32) (g : gT) (L : lT) (h_g : FW wA_fX10_withoutTwo_9 wB_fX10_withoutTwo_9 g0 g) : Kp wA_fX10_withoutTwo_9 wB_fX10_withoutTwo_9 g0 (fX10_withoutTwo_9 fu p1 g L) := by
  unfold fX10_withoutTwo_9
  refine kp_cb (w_fX4_clear_13 _ _ _ _ FW.refl) rfl rfl h_g (fun x1 g2 L3 h_g2 => ?_)
  exact w_fX10_withoutTwo_9_l9 _ _ _ _ _ _ h_g2
abbrev wA_fX10_lostByRule_9 : List (Nat × Nat) := [(6, 11)]
abbrev wB_fX10_lostByRule_9 : List Nat := [21, 43, 44, 45, 46, 47, 48]
theorem w_fX10_lostByRule_9 (g0 : gT) (fu : Nat) (p1 : Int32) (g : gT) (L : lT) (h_g : FW wA_fX10_lostByRule_9 wB_fX10_lostByRule_9 g0 g) : Kp wA_fX10_lostByRule_9 wB_fX10_lostByRule_9 g0 (fX10_lostByRule_9 fu p1 g L) := by
  unfold fX10_lostByRule_9
  refine kp_lti (fun x1 => ?_)
  refine kp_stF (by decide) h_g (fun g2 h_g2 => ?_)
  refine kp_cb (w_fX1_lostFrom_8 _ _ _ _ _ FW.refl) rfl rfl h_g2 (fun x3 g4 L5 h_g4 => ?_)
  refine kp_stF (by decide) h_g4 (fun g7 h_g7 => ?_)
  exact kp_some h_g7
abbrev wA_fX10_bestRule_9 : List (Nat × Nat) := [(6, 11), (13, 0), (13, 1), (13, 2)]
abbrev wB_fX10_bestRule_9 : List Nat := [21, 43, 44, 45, 46, 47, 48]
theorem w_fX10_bestRule_9_s9 (g0 : gT) (fu : Nat) (k9 : Int32 × gT × lT → Option ((Int32) × zS)) (v1 : Int32) (g : gT) (L : lT) (hk9 : ∀ v : Int32 × gT × lT, FW wA_fX10_bestRule_9 wB_fX10_bestRule_9 g0 (v.2.1) → Kp wA_fX10_bestRule_9 wB_fX10_bestRule_9 g0 (k9 v)) (h_g : FW wA_fX10_bestRule_9 wB_fX10_bestRule_9 g0 g) : Kp wA_fX10_bestRule_9 wB_fX10_bestRule_9 g0 (fX10_bestRule_9_s9 fu k9 v1 g L) := by
  unfold fX10_bestRule_9_s9
  refine kp_ite ?_ ?_
  ·
    refine kp_cb (w_fX4_told_13 _ _ _ _ _ FW.refl) rfl rfl h_g (fun x6 g7 L8 h_g7 => ?_)
    exact kp_some h_g7
  ·
    refine kp_cb (w_fX10_lostByRule_9 _ _ _ _ _ FW.refl) rfl rfl h_g (fun x10 g11 L12 h_g11 => ?_)
    refine kp_cb (w_fX4_offer_13 _ _ _ _ _ _ FW.refl) rfl rfl h_g11 (fun x14 g15 L16 h_g15 => ?_)
    exact hk9 _ h_g15
theorem w_fX10_bestRule_9_l9 (g0 : gT) (fu : Nat) (v1 : Int32) (g : gT) (L : lT) (h_g : FW wA_fX10_bestRule_9 wB_fX10_bestRule_9 g0 g) : Kp wA_fX10_bestRule_9 wB_fX10_bestRule_9 g0 (fX10_bestRule_9_l9 fu v1 g L) := by
  unfold fX10_bestRule_9_l9
  exact kp_loop (fun v => v.2.1) (fun k_ hk_ v hv_ => w_fX10_bestRule_9_s9 _ _ _ _ _ _ hk_ hv_) h_g
theorem w_fX10_bestRule_9 (g0 : gT) (fu : Nat) (g : gT) (L : lT) (h_g : FW wA_fX10_bestRule_9 wB_fX10_bestRule_9 g0 g) : Kp wA_fX10_bestRule_9 wB_fX10_bestRule_9 g0 (fX10_bestRule_9 fu g L) := by
  unfold fX10_bestRule_9
  refine kp_cb (w_fX4_clear_13 _ _ _ _ FW.refl) rfl rfl h_g (fun x1 g2 L3 h_g2 => ?_)
  exact w_fX10_bestRule_9_l9 _ _ _ _ _ h_g2
abbrev wA_fX10_worthOfBell_9 : List (Nat × Nat) := []
abbrev wB_fX10_worthOfBell_9 : List Nat := [21, 25, 43, 44, 45, 46, 47, 48, 49]
theorem w_fX10_worthOfBell_9_s29 (g0 : gT) (fu : Nat) (v1 : Int32) (v2 : Int32) (k29 : Int32 × gT × lT → Option ((Int32) × zS)) (v3 : Int32) (g : gT) (L : lT) (hk29 : ∀ v : Int32 × gT × lT, FW wA_fX10_worthOfBell_9 wB_fX10_worthOfBell_9 g0 (v.2.1) → Kp wA_fX10_worthOfBell_9 wB_fX10_worthOfBell_9 g0 (k29 v)) (h_g : FW wA_fX10_worthOfBell_9 wB_fX10_worthOfBell_9 g0 g) : Kp wA_fX10_worthOfBell_9 wB_fX10_worthOfBell_9 g0 (fX10_worthOfBell_9_s29 fu v1 v2 k29 v3 g L) := by
  unfold fX10_worthOfBell_9_s29
  refine kp_cb (w_fX10_lessonCount_9 _ _ _ _ FW.refl) rfl rfl h_g (fun x6 g7 L8 h_g7 => ?_)
  refine kp_ite ?_ ?_
  ·
    refine kp_cb (w_fX1_lostFrom_8 _ _ _ _ _ FW.refl) rfl rfl h_g7 (fun x11 g12 L13 h_g12 => ?_)
    refine kp_stA (by decide) h_g12 (fun g15 h_g15 => ?_)
    exact kp_some h_g15
  ·
    refine kp_ck ?_
    refine kp_ck ?_
    refine kp_stB (by decide) h_g7 (fun g16 h_g16 => ?_)
    exact hk29 _ h_g16
theorem w_fX10_worthOfBell_9_l29 (g0 : gT) (fu : Nat) (v1 : Int32) (v2 : Int32) (v3 : Int32) (g : gT) (L : lT) (h_g : FW wA_fX10_worthOfBell_9 wB_fX10_worthOfBell_9 g0 g) : Kp wA_fX10_worthOfBell_9 wB_fX10_worthOfBell_9 g0 (fX10_worthOfBell_9_l29 fu v1 v2 v3 g L) := by
  unfold fX10_worthOfBell_9_l29
  exact kp_loop (fun v => v.2.1) (fun k_ hk_ v hv_ => w_fX10_worthOfBell_9_s29 _ _ _ _ _ _ _ _ hk_ hv_) h_g
theorem w_fX10_worthOfBell_9 (g0 : gT) (fu : Nat) (p1 : Int32) (g : gT) (L : lT) (h_g : FW wA_fX10_worthOfBell_9 wB_fX10_worthOfBell_9 g0 g) : Kp wA_fX10_worthOfBell_9 wB_fX10_worthOfBell_9 g0 (fX10_worthOfBell_9 fu p1 g L) := by
  unfold fX10_worthOfBell_9
  refine kp_cb (w_fX1_lostFrom_8 _ _ _ _ _ FW.refl) rfl rfl h_g (fun x1 g2 L3 h_g2 => ?_)
  refine kp_stA (by decide) h_g2 (fun g5 h_g5 => ?_)
  exact w_fX10_worthOfBell_9_l29 _ _ _ _ _ _ _ h_g5
abbrev wA_fX10_isAsSeen_9 : List (Nat × Nat) := []
abbrev wB_fX10_isAsSeen_9 : List Nat := []
theorem w_fX10_isAsSeen_9_s2 (g0 : gT) (fu : Nat) (k2 : Int32 × gT × lT → Option ((Int32) × zS)) (v1 : Int32) (g : gT) (L : lT) (hk2 : ∀ v : Int32 × gT × lT, FW wA_fX10_isAsSeen_9 wB_fX10_isAsSeen_9 g0 (v.2.1) → Kp wA_fX10_isAsSeen_9 wB_fX10_isAsSeen_9 g0 (k2 v)) (h_g : FW wA_fX10_isAsSeen_9 wB_fX10_isAsSeen_9 g0 g) : Kp wA_fX10_isAsSeen_9 wB_fX10_isAsSeen_9 g0 (fX10_isAsSeen_9_s2 fu k2 v1 g L) := by
  unfold fX10_isAsSeen_9_s2
  refine kp_ite ?_ ?_
  ·
    refine kp_ckb ?_
    exact kp_some h_g
  ·
    refine kp_ck ?_
    refine kp_cb (w_fX1_late_8 _ _ _ _ _ FW.refl) rfl rfl h_g (fun x2 g3 L4 h_g3 => ?_)
    refine kp_ck ?_
    refine kp_ite ?_ ?_
    ·
      exact hk2 _ h_g3
    ·
      refine kp_ckb ?_
      exact kp_some h_g3
theorem w_fX10_isAsSeen_9_l2 (g0 : gT) (fu : Nat) (v1 : Int32) (g : gT) (L : lT) (h_g : FW wA_fX10_isAsSeen_9 wB_fX10_isAsSeen_9 g0 g) : Kp wA_fX10_isAsSeen_9 wB_fX10_isAsSeen_9 g0 (fX10_isAsSeen_9_l2 fu v1 g L) := by
  unfold fX10_isAsSeen_9_l2
  exact kp_loop (fun v => v.2.1) (fun k_ hk_ v hv_ => w_fX10_isAsSeen_9_s2 _ _ _ _ _ _ hk_ hv_) h_g
theorem w_fX10_isAsSeen_9 (g0 : gT) (fu : Nat) (g : gT) (L : lT) (h_g : FW wA_fX10_isAsSeen_9 wB_fX10_isAsSeen_9 g0 g) : Kp wA_fX10_isAsSeen_9 wB_fX10_isAsSeen_9 g0 (fX10_isAsSeen_9 fu g L) := by
  unfold fX10_isAsSeen_9
  exact w_fX10_isAsSeen_9_l2 _ _ _ _ _ h_g
abbrev wA_fX10_addBeginner_9 : List (Nat × Nat) := [(9, 4), (9, 5), (9, 6)]
abbrev wB_fX10_addBeginner_9 : List Nat := []
theorem w_fX10_addBeginner_9_p38 (g0 : gT) (fu : Nat) (g : gT) (L : lT) (h_g : FW wA_fX10_addBeginner_9 wB_fX10_addBeginner_9 g0 g) : Kp wA_fX10_addBeginner_9 wB_fX10_addBeginner_9 g0 (fX10_addBeginner_9_p38 fu g L) := by
  unfold fX10_addBeginner_9_p38
  refine kp_stF (by decide) h_g (fun g1 h_g1 => ?_)
  exact kp_some h_g1
theorem w_fX10_addBeginner_9 (g0 : gT) (fu : Nat) (p1 : Int32) (p2 : Int32) (g : gT) (L : lT) (h_g : FW wA_fX10_addBeginner_9 wB_fX10_addBeginner_9 g0 g) : Kp wA_fX10_addBeginner_9 wB_fX10_addBeginner_9 g0 (fX10_addBeginner_9 fu p1 p2 g L) := by
  unfold fX10_addBeginner_9
  refine kp_ite ?_ ?_
  ·
    refine kp_stF (by decide) h_g (fun g5 h_g5 => ?_)
    refine kp_stF (by decide) h_g5 (fun g6 h_g6 => ?_)
    exact w_fX10_addBeginner_9_p38 _ _ _ _ h_g6
  ·
    refine kp_ite ?_ ?_
    ·
      exact w_fX10_addBeginner_9_p38 _ _ _ _ h_g
    ·
      refine kp_stF (by decide) h_g (fun g4 h_g4 => ?_)
      exact w_fX10_addBeginner_9_p38 _ _ _ _ h_g4
abbrev wA_fX10_findBeginners_9 : List (Nat × Nat) := [(9, 4), (9, 5), (9, 6)]
abbrev wB_fX10_findBeginners_9 : List Nat := [21, 25, 43, 44, 45, 46, 47, 48]
theorem w_fX10_findBeginners_9_p82 (g0 : gT) (fu : Nat) (k17 : Int32 × gT × lT → Option ((Unit) × zS)) (k45 : Int32 × gT × lT → Option ((Unit) × zS)) (v1 : Int32) (v2 : Int32) (v3 : Int32) (g : gT) (L : lT) (hk17 : ∀ v : Int32 × gT × lT, FW wA_fX10_findBeginners_9 wB_fX10_findBeginners_9 g0 (v.2.1) → Kp wA_fX10_findBeginners_9 wB_fX10_findBeginners_9 g0 (k17 v)) (hk45 : ∀ v : Int32 × gT × lT, FW wA_fX10_findBeginners_9 wB_fX10_findBeginners_9 g0 (v.2.1) → Kp wA_fX10_findBeginners_9 wB_fX10_findBeginners_9 g0 (k45 v)) (h_g : FW wA_fX10_findBeginners_9 wB_fX10_findBeginners_9 g0 g) : Kp wA_fX10_findBeginners_9 wB_fX10_findBeginners_9 g0 (fX10_findBeginners_9_p82 fu k17 k45 v1 v2 v3 g L) := by
  unfold fX10_findBeginners_9_p82
  exact hk45 _ h_g
theorem w_fX10_findBeginners_9_s45 (g0 : gT) (fu : Nat) (k17 : Int32 × gT × lT → Option ((Unit) × zS)) (v1 : Int32) (v2 : Int32) (k45 : Int32 × gT × lT → Option ((Unit) × zS)) (v3 : Int32) (g : gT) (L : lT) (hk17 : ∀ v : Int32 × gT × lT, FW wA_fX10_findBeginners_9 wB_fX10_findBeginners_9 g0 (v.2.1) → Kp wA_fX10_findBeginners_9 wB_fX10_findBeginners_9 g0 (k17 v)) (hk45 : ∀ v : Int32 × gT × lT, FW wA_fX10_findBeginners_9 wB_fX10_findBeginners_9 g0 (v.2.1) → Kp wA_fX10_findBeginners_9 wB_fX10_findBeginners_9 g0 (k45 v)) (h_g : FW wA_fX10_findBeginners_9 wB_fX10_findBeginners_9 g0 g) : Kp wA_fX10_findBeginners_9 wB_fX10_findBeginners_9 g0 (fX10_findBeginners_9_s45 fu k17 v1 v2 k45 v3 g L) := by
  unfold fX10_findBeginners_9_s45
  refine kp_ite ?_ ?_
  ·
    refine kp_ck ?_
    refine kp_stB (by decide) h_g (fun g15 h_g15 => ?_)
    exact hk17 _ h_g15
  ·
    refine kp_ck ?_
    refine kp_stB (by decide) h_g (fun g16 h_g16 => ?_)
    refine kp_cb (w_fX1_runFrom_8 _ _ _ _ _ FW.refl) rfl rfl h_g16 (fun x17 g18 L19 h_g18 => ?_)
    refine kp_cb (w_fX10_isAsSeen_9 _ _ _ _ FW.refl) rfl rfl h_g18 (fun x21 g22 L23 h_g22 => ?_)
    refine kp_ite ?_ ?_
    ·
      exact w_fX10_findBeginners_9_p82 _ _ _ _ _ _ _ _ _ hk17 hk45 h_g22
    ·
      refine kp_cb (w_fX10_addBeginner_9 _ _ _ _ _ _ FW.refl) rfl rfl h_g22 (fun x26 g27 L28 h_g27 => ?_)
      exact w_fX10_findBeginners_9_p82 _ _ _ _ _ _ _ _ _ hk17 hk45 h_g27
theorem w_fX10_findBeginners_9_l45 (g0 : gT) (fu : Nat) (k17 : Int32 × gT × lT → Option ((Unit) × zS)) (v1 : Int32) (v2 : Int32) (v3 : Int32) (g : gT) (L : lT) (hk17 : ∀ v : Int32 × gT × lT, FW wA_fX10_findBeginners_9 wB_fX10_findBeginners_9 g0 (v.2.1) → Kp wA_fX10_findBeginners_9 wB_fX10_findBeginners_9 g0 (k17 v)) (h_g : FW wA_fX10_findBeginners_9 wB_fX10_findBeginners_9 g0 g) : Kp wA_fX10_findBeginners_9 wB_fX10_findBeginners_9 g0 (fX10_findBeginners_9_l45 fu k17 v1 v2 v3 g L) := by
  unfold fX10_findBeginners_9_l45
  exact kp_loop (fun v => v.2.1) (fun k_ hk_ v hv_ => w_fX10_findBeginners_9_s45 _ _ _ _ _ _ _ _ _ hk17 hk_ hv_) h_g
theorem w_fX10_findBeginners_9_s17 (g0 : gT) (fu : Nat) (k17 : Int32 × gT × lT → Option ((Unit) × zS)) (v1 : Int32) (g : gT) (L : lT) (hk17 : ∀ v : Int32 × gT × lT, FW wA_fX10_findBeginners_9 wB_fX10_findBeginners_9 g0 (v.2.1) → Kp wA_fX10_findBeginners_9 wB_fX10_findBeginners_9 g0 (k17 v)) (h_g : FW wA_fX10_findBeginners_9 wB_fX10_findBeginners_9 g0 g) : Kp wA_fX10_findBeginners_9 wB_fX10_findBeginners_9 g0 (fX10_findBeginners_9_s17 fu k17 v1 g L) := by
  unfold fX10_findBeginners_9_s17
  refine kp_cb (w_fX10_lessonCount_9 _ _ _ _ FW.refl) rfl rfl h_g (fun x4 g5 L6 h_g5 => ?_)
  refine kp_ite ?_ ?_
  ·
    exact kp_some h_g5
  ·
    refine kp_cb (w_fX1_runFrom_8 _ _ _ _ _ FW.refl) rfl rfl h_g5 (fun x9 g10 L11 h_g10 => ?_)
    refine kp_ck ?_
    refine kp_lti (fun x13 => ?_)
    exact w_fX10_findBeginners_9_l45 _ _ _ _ _ _ _ _ hk17 h_g10
theorem w_fX10_findBeginners_9_l17 (g0 : gT) (fu : Nat) (v1 : Int32) (g : gT) (L : lT) (h_g : FW wA_fX10_findBeginners_9 wB_fX10_findBeginners_9 g0 g) : Kp wA_fX10_findBeginners_9 wB_fX10_findBeginners_9 g0 (fX10_findBeginners_9_l17 fu v1 g L) := by
  unfold fX10_findBeginners_9_l17
  exact kp_loop (fun v => v.2.1) (fun k_ hk_ v hv_ => w_fX10_findBeginners_9_s17 _ _ _ _ _ _ hk_ hv_) h_g
theorem w_fX10_findBeginners_9 (g0 : gT) (fu : Nat) (g : gT) (L : lT) (h_g : FW wA_fX10_findBeginners_9 wB_fX10_findBeginners_9 g0 g) : Kp wA_fX10_findBeginners_9 wB_fX10_findBeginners_9 g0 (fX10_findBeginners_9 fu g L) := by
  unfold fX10_findBeginners_9
  refine kp_stF (by decide) h_g (fun g1 h_g1 => ?_)
  refine kp_stF (by decide) h_g1 (fun g2 h_g2 => ?_)
  refine kp_stF (by decide) h_g2 (fun g3 h_g3 => ?_)
  exact w_fX10_findBeginners_9_l17 _ _ _ _ _ h_g3
abbrev wA_fX10_leastByShift_9 : List (Nat × Nat) := [(13, 0), (13, 1), (13, 2)]
abbrev wB_fX10_leastByShift_9 : List Nat := [21, 43, 44, 45, 46, 47, 48, 57, 58, 59, 60, 61, 62, 63, 64, 65, 66, 67, 68]
theorem w_fX10_leastByShift_9_p105 (g0 : gT) (fu : Nat) (k44 : Int32 × gT × lT → Option ((Int32) × zS)) (v1 : Int32) (v2 : Int32) (q3_ : Nat) (v4 : Int32) (v5 : Int32) (v6 : Int32) (g : gT) (L : lT) (hk44 : ∀ v : Int32 × gT × lT, FW wA_fX10_leastByShift_9 wB_fX10_leastByShift_9 g0 (v.2.1) → Kp wA_fX10_leastByShift_9 wB_fX10_leastByShift_9 g0 (k44 v)) (hq3_ : 57 ≤ q3_ ∧ q3_ ≤ 68) (h_g : FW wA_fX10_leastByShift_9 wB_fX10_leastByShift_9 g0 g) : Kp wA_fX10_leastByShift_9 wB_fX10_leastByShift_9 g0 (fX10_leastByShift_9_p105 fu k44 v1 v2 q3_ v4 v5 v6 g L) := by
  unfold fX10_leastByShift_9_p105
  exact hk44 _ h_g
theorem w_fX10_leastByShift_9_s44 (g0 : gT) (fu : Nat) (v1 : Int32) (v2 : Int32) (q3_ : Nat) (v4 : Int32) (v5 : Int32) (k44 : Int32 × gT × lT → Option ((Int32) × zS)) (v6 : Int32) (g : gT) (L : lT) (hq3_ : 57 ≤ q3_ ∧ q3_ ≤ 68) (hk44 : ∀ v : Int32 × gT × lT, FW wA_fX10_leastByShift_9 wB_fX10_leastByShift_9 g0 (v.2.1) → Kp wA_fX10_leastByShift_9 wB_fX10_leastByShift_9 g0 (k44 v)) (h_g : FW wA_fX10_leastByShift_9 wB_fX10_leastByShift_9 g0 g) : Kp wA_fX10_leastByShift_9 wB_fX10_leastByShift_9 g0 (fX10_leastByShift_9_s44 fu v1 v2 q3_ v4 v5 k44 v6 g L) := by
  unfold fX10_leastByShift_9_s44
  refine kp_ite ?_ ?_
  ·
    refine kp_stB (sbB_mem (B := [57, 58, 59, 60, 61, 62, 63, 64, 65, 66, 67, 68]) rfl (q57 hq3_)) h_g (fun g13 h_g13 => ?_)
    refine kp_stB (sbB_mem (B := [57, 58, 59, 60, 61, 62, 63, 64, 65, 66, 67, 68]) rfl (q57 hq3_)) h_g13 (fun g14 h_g14 => ?_)
    refine kp_cb (w_fX4_told_13 _ _ _ _ _ FW.refl) rfl rfl h_g14 (fun x15 g16 L17 h_g16 => ?_)
    exact kp_some h_g16
  ·
    refine kp_ite ?_ ?_
    ·
      exact w_fX10_leastByShift_9_p105 _ _ _ _ _ _ _ _ _ _ _ hk44 hq3_ h_g
    ·
      refine kp_ite ?_ ?_
      ·
        exact w_fX10_leastByShift_9_p105 _ _ _ _ _ _ _ _ _ _ _ hk44 hq3_ h_g
      ·
        refine kp_stB (sbB_mem (B := [57, 58, 59, 60, 61, 62, 63, 64, 65, 66, 67, 68]) rfl (q57 hq3_)) h_g (fun g21 h_g21 => ?_)
        refine kp_stB (sbB_mem (B := [57, 58, 59, 60, 61, 62, 63, 64, 65, 66, 67, 68]) rfl (q57 hq3_)) h_g21 (fun g22 h_g22 => ?_)
        refine kp_cb (w_fX1_lostFrom_8 _ _ _ _ _ FW.refl) rfl rfl h_g22 (fun x23 g24 L25 h_g24 => ?_)
        refine kp_cb (w_fX4_offer_13 _ _ _ _ _ _ FW.refl) rfl rfl h_g24 (fun x27 g28 L29 h_g28 => ?_)
        exact w_fX10_leastByShift_9_p105 _ _ _ _ _ _ _ _ _ _ _ hk44 hq3_ h_g28
theorem w_fX10_leastByShift_9_l44 (g0 : gT) (fu : Nat) (v1 : Int32) (v2 : Int32) (q3_ : Nat) (v4 : Int32) (v5 : Int32) (v6 : Int32) (g : gT) (L : lT) (hq3_ : 57 ≤ q3_ ∧ q3_ ≤ 68) (h_g : FW wA_fX10_leastByShift_9 wB_fX10_leastByShift_9 g0 g) : Kp wA_fX10_leastByShift_9 wB_fX10_leastByShift_9 g0 (fX10_leastByShift_9_l44 fu v1 v2 q3_ v4 v5 v6 g L) := by
  unfold fX10_leastByShift_9_l44
  exact kp_loop (fun v => v.2.1) (fun k_ hk_ v hv_ => w_fX10_leastByShift_9_s44 _ _ _ _ _ _ _ _ _ _ _ hq3_ hk_ hv_) h_g
theorem w_fX10_leastByShift_9 (g0 : gT) (fu : Nat) (p1 : Int32) (p2 : Int32) (g : gT) (L : lT) (h_g : FW wA_fX10_leastByShift_9 wB_fX10_leastByShift_9 g0 g) : Kp wA_fX10_leastByShift_9 wB_fX10_leastByShift_9 g0 (fX10_leastByShift_9 fu p1 p2 g L) := by
  unfold fX10_leastByShift_9
  refine kp_ck ?_
  refine kp_ltn (fun q1 e_ => ?_)
  have hq1 : 57 ≤ q1 ∧ q1 ≤ 68 := by omega
  refine kp_lti (fun x2 => ?_)
  refine kp_lti (fun x3 => ?_)
  refine kp_cb (w_fX1_runFrom_8 _ _ _ _ _ FW.refl) rfl rfl h_g (fun x4 g5 L6 h_g5 => ?_)
  refine kp_cb (w_fX4_clear_13 _ _ _ _ FW.refl) rfl rfl h_g5 (fun x8 g9 L10 h_g9 => ?_)
  exact w_fX10_leastByShift_9_l44 _ _ _ _ _ _ _ _ _ _ hq1 h_g9
abbrev wA_fX10_harmDone_9 : List (Nat × Nat) := []
abbrev wB_fX10_harmDone_9 : List Nat := [21, 25, 43, 44, 45, 46, 47, 48]
theorem w_fX10_harmDone_9 (g0 : gT) (fu : Nat) (p1 : Int32) (p2 : Int32) (g : gT) (L : lT) (h_g : FW wA_fX10_harmDone_9 wB_fX10_harmDone_9 g0 g) : Kp wA_fX10_harmDone_9 wB_fX10_harmDone_9 g0 (fX10_harmDone_9 fu p1 p2 g L) := by
  unfold fX10_harmDone_9
  refine kp_cb (w_fX1_runFrom_8 _ _ _ _ _ FW.refl) rfl rfl h_g (fun x1 g2 L3 h_g2 => ?_)
  refine kp_cb (w_fX1_late_8 _ _ _ _ _ FW.refl) rfl rfl h_g2 (fun x5 g6 L7 h_g6 => ?_)
  refine kp_ck ?_
  refine kp_lti (fun x9 => ?_)
  refine kp_ck ?_
  refine kp_stB (by decide) h_g6 (fun g10 h_g10 => ?_)
  refine kp_cb (w_fX1_runFrom_8 _ _ _ _ _ FW.refl) rfl rfl h_g10 (fun x11 g12 L13 h_g12 => ?_)
  refine kp_ck ?_
  refine kp_stB (by decide) h_g12 (fun g15 h_g15 => ?_)
  refine kp_cb (w_fX1_late_8 _ _ _ _ _ FW.refl) rfl rfl h_g15 (fun x16 g17 L18 h_g17 => ?_)
  exact kp_some h_g17
abbrev wA_fX10_addGapFrom_9 : List (Nat × Nat) := []
abbrev wB_fX10_addGapFrom_9 : List Nat := [26]
theorem w_fX10_addGapFrom_9_p42 (g0 : gT) (fu : Nat) (k2 : Int32 × gT × lT → Option ((Unit) × zS)) (v1 : Int32) (v2 : Int32) (v3 : Int32) (g : gT) (L : lT) (hk2 : ∀ v : Int32 × gT × lT, FW wA_fX10_addGapFrom_9 wB_fX10_addGapFrom_9 g0 (v.2.1) → Kp wA_fX10_addGapFrom_9 wB_fX10_addGapFrom_9 g0 (k2 v)) (h_g : FW wA_fX10_addGapFrom_9 wB_fX10_addGapFrom_9 g0 g) : Kp wA_fX10_addGapFrom_9 wB_fX10_addGapFrom_9 g0 (fX10_addGapFrom_9_p42 fu k2 v1 v2 v3 g L) := by
  unfold fX10_addGapFrom_9_p42
  exact hk2 _ h_g
theorem w_fX10_addGapFrom_9_s2 (g0 : gT) (fu : Nat) (v1 : Int32) (v2 : Int32) (k2 : Int32 × gT × lT → Option ((Unit) × zS)) (v3 : Int32) (g : gT) (L : lT) (hk2 : ∀ v : Int32 × gT × lT, FW wA_fX10_addGapFrom_9 wB_fX10_addGapFrom_9 g0 (v.2.1) → Kp wA_fX10_addGapFrom_9 wB_fX10_addGapFrom_9 g0 (k2 v)) (h_g : FW wA_fX10_addGapFrom_9 wB_fX10_addGapFrom_9 g0 g) : Kp wA_fX10_addGapFrom_9 wB_fX10_addGapFrom_9 g0 (fX10_addGapFrom_9_s2 fu v1 v2 k2 v3 g L) := by
  unfold fX10_addGapFrom_9_s2
  refine kp_cb (w_fX10_lessonCount_9 _ _ _ _ FW.refl) rfl rfl h_g (fun x1 g2 L3 h_g2 => ?_)
  refine kp_ite ?_ ?_
  ·
    exact kp_some h_g2
  ·
    refine kp_ck ?_
    refine kp_ltn (fun q6 e_ => ?_)
    refine kp_ite ?_ ?_
    ·
      exact w_fX10_addGapFrom_9_p42 _ _ _ _ _ _ _ _ hk2 h_g2
    ·
      refine kp_ck ?_
      refine kp_ck ?_
      refine kp_stB (by decide) h_g2 (fun g8 h_g8 => ?_)
      exact w_fX10_addGapFrom_9_p42 _ _ _ _ _ _ _ _ hk2 h_g8
theorem w_fX10_addGapFrom_9_l2 (g0 : gT) (fu : Nat) (v1 : Int32) (v2 : Int32) (v3 : Int32) (g : gT) (L : lT) (h_g : FW wA_fX10_addGapFrom_9 wB_fX10_addGapFrom_9 g0 g) : Kp wA_fX10_addGapFrom_9 wB_fX10_addGapFrom_9 g0 (fX10_addGapFrom_9_l2 fu v1 v2 v3 g L) := by
  unfold fX10_addGapFrom_9_l2
  exact kp_loop (fun v => v.2.1) (fun k_ hk_ v hv_ => w_fX10_addGapFrom_9_s2 _ _ _ _ _ _ _ _ hk_ hv_) h_g
theorem w_fX10_addGapFrom_9 (g0 : gT) (fu : Nat) (p1 : Int32) (p2 : Int32) (g : gT) (L : lT) (h_g : FW wA_fX10_addGapFrom_9 wB_fX10_addGapFrom_9 g0 g) : Kp wA_fX10_addGapFrom_9 wB_fX10_addGapFrom_9 g0 (fX10_addGapFrom_9 fu p1 p2 g L) := by
  unfold fX10_addGapFrom_9
  exact w_fX10_addGapFrom_9_l2 _ _ _ _ _ _ _ h_g
abbrev wA_fX10_leastByPause_9 : List (Nat × Nat) := [(13, 0), (13, 1), (13, 2)]
abbrev wB_fX10_leastByPause_9 : List Nat := [21, 26, 43, 44, 45, 46, 47, 48]
theorem w_fX10_leastByPause_9_s9 (g0 : gT) (fu : Nat) (v1 : Int32) (v2 : Int32) (k9 : Int32 × gT × lT → Option ((Int32) × zS)) (v3 : Int32) (g : gT) (L : lT) (hk9 : ∀ v : Int32 × gT × lT, FW wA_fX10_leastByPause_9 wB_fX10_leastByPause_9 g0 (v.2.1) → Kp wA_fX10_leastByPause_9 wB_fX10_leastByPause_9 g0 (k9 v)) (h_g : FW wA_fX10_leastByPause_9 wB_fX10_leastByPause_9 g0 g) : Kp wA_fX10_leastByPause_9 wB_fX10_leastByPause_9 g0 (fX10_leastByPause_9_s9 fu v1 v2 k9 v3 g L) := by
  unfold fX10_leastByPause_9_s9
  refine kp_cb (w_fX10_lessonCount_9 _ _ _ _ FW.refl) rfl rfl h_g (fun x5 g6 L7 h_g6 => ?_)
  refine kp_ite ?_ ?_
  ·
    refine kp_cb (w_fX4_told_13 _ _ _ _ _ FW.refl) rfl rfl h_g6 (fun x10 g11 L12 h_g11 => ?_)
    exact kp_some h_g11
  ·
    refine kp_ck ?_
    refine kp_ltn (fun q14 e_ => ?_)
    refine kp_lti (fun x15 => ?_)
    refine kp_cb (w_fX10_addGapFrom_9 _ _ _ _ _ _ FW.refl) rfl rfl h_g6 (fun x16 g17 L18 h_g17 => ?_)
    refine kp_cb (w_fX1_lostFrom_8 _ _ _ _ _ FW.refl) rfl rfl h_g17 (fun x20 g21 L22 h_g21 => ?_)
    refine kp_cb (w_fX4_offer_13 _ _ _ _ _ _ FW.refl) rfl rfl h_g21 (fun x24 g25 L26 h_g25 => ?_)
    refine kp_cb (w_fX10_addGapFrom_9 _ _ _ _ _ _ FW.refl) rfl rfl h_g25 (fun x28 g29 L30 h_g29 => ?_)
    exact hk9 _ h_g29
theorem w_fX10_leastByPause_9_l9 (g0 : gT) (fu : Nat) (v1 : Int32) (v2 : Int32) (v3 : Int32) (g : gT) (L : lT) (h_g : FW wA_fX10_leastByPause_9 wB_fX10_leastByPause_9 g0 g) : Kp wA_fX10_leastByPause_9 wB_fX10_leastByPause_9 g0 (fX10_leastByPause_9_l9 fu v1 v2 v3 g L) := by
  unfold fX10_leastByPause_9_l9
  exact kp_loop (fun v => v.2.1) (fun k_ hk_ v hv_ => w_fX10_leastByPause_9_s9 _ _ _ _ _ _ _ _ hk_ hv_) h_g
theorem w_fX10_leastByPause_9 (g0 : gT) (fu : Nat) (p1 : Int32) (p2 : Int32) (g : gT) (L : lT) (h_g : FW wA_fX10_leastByPause_9 wB_fX10_leastByPause_9 g0 g) : Kp wA_fX10_leastByPause_9 wB_fX10_leastByPause_9 g0 (fX10_leastByPause_9 fu p1 p2 g L) := by
  unfold fX10_leastByPause_9
  refine kp_cb (w_fX4_clear_13 _ _ _ _ FW.refl) rfl rfl h_g (fun x1 g2 L3 h_g2 => ?_)
  exact w_fX10_leastByPause_9_l9 _ _ _ _ _ _ _ h_g2
abbrev wA_fX2_isIn : List (Nat × Nat) := []
abbrev wB_fX2_isIn : List Nat := []
theorem w_fX2_isIn_p13 (g0 : gT) (fu : Nat) (t0 : Int32) (g : gT) (L : lT) (h_g : FW wA_fX2_isIn wB_fX2_isIn g0 g) : Kp wA_fX2_isIn wB_fX2_isIn g0 (fX2_isIn_p13 fu t0 g L) := by
  unfold fX2_isIn_p13
  refine kp_ckb ?_
  exact kp_some h_g
theorem w_fX2_isIn (g0 : gT) (fu : Nat) (p1 : Int32) (p2 : Int32) (g : gT) (L : lT) (h_g : FW wA_fX2_isIn wB_fX2_isIn g0 g) : Kp wA_fX2_isIn wB_fX2_isIn g0 (fX2_isIn fu p1 p2 g L) := by
  unfold fX2_isIn
  refine kp_ite ?_ ?_
  ·
    exact w_fX2_isIn_p13 _ _ _ _ _ h_g
  ·
    exact w_fX2_isIn_p13 _ _ _ _ _ h_g
abbrev wA_fX2_findAsked_10 : List (Nat × Nat) := [(10, 7)]
abbrev wB_fX2_findAsked_10 : List Nat := []
theorem w_fX2_findAsked_10_p54 (g0 : gT) (fu : Nat) (k15 : Int32 × gT × lT → Option ((Unit) × zS)) (v1 : Int32) (g : gT) (L : lT) (hk15 : ∀ v : Int32 × gT × lT, FW wA_fX2_findAsked_10 wB_fX2_findAsked_10 g0 (v.2.1) → Kp wA_fX2_findAsked_10 wB_fX2_findAsked_10 g0 (k15 v)) (h_g : FW wA_fX2_findAsked_10 wB_fX2_findAsked_10 g0 g) : Kp wA_fX2_findAsked_10 wB_fX2_findAsked_10 g0 (fX2_findAsked_10_p54 fu k15 v1 g L) := by
  unfold fX2_findAsked_10_p54
  exact hk15 _ h_g
theorem w_fX2_findAsked_10_s15 (g0 : gT) (fu : Nat) (k15 : Int32 × gT × lT → Option ((Unit) × zS)) (v1 : Int32) (g : gT) (L : lT) (hk15 : ∀ v : Int32 × gT × lT, FW wA_fX2_findAsked_10 wB_fX2_findAsked_10 g0 (v.2.1) → Kp wA_fX2_findAsked_10 wB_fX2_findAsked_10 g0 (k15 v)) (h_g : FW wA_fX2_findAsked_10 wB_fX2_findAsked_10 g0 g) : Kp wA_fX2_findAsked_10 wB_fX2_findAsked_10 g0 (fX2_findAsked_10_s15 fu k15 v1 g L) := by
  unfold fX2_findAsked_10_s15
  refine kp_ite ?_ ?_
  ·
    exact kp_some h_g
  ·
    refine kp_cb (w_fX2_isIn _ _ _ _ _ _ FW.refl) rfl rfl h_g (fun x4 g5 L6 h_g5 => ?_)
    refine kp_ite ?_ ?_
    ·
      exact w_fX2_findAsked_10_p54 _ _ _ _ _ _ hk15 h_g5
    ·
      refine kp_ck ?_
      refine kp_ltn (fun q9 e_ => ?_)
      refine kp_stF (by decide) h_g5 (fun g10 h_g10 => ?_)
      exact w_fX2_findAsked_10_p54 _ _ _ _ _ _ hk15 h_g10
theorem w_fX2_findAsked_10_l15 (g0 : gT) (fu : Nat) (v1 : Int32) (g : gT) (L : lT) (h_g : FW wA_fX2_findAsked_10 wB_fX2_findAsked_10 g0 g) : Kp wA_fX2_findAsked_10 wB_fX2_findAsked_10 g0 (fX2_findAsked_10_l15 fu v1 g L) := by
  unfold fX2_findAsked_10_l15
  exact kp_loop (fun v => v.2.1) (fun k_ hk_ v hv_ => w_fX2_findAsked_10_s15 _ _ _ _ _ _ hk_ hv_) h_g
theorem w_fX2_findAsked_10 (g0 : gT) (fu : Nat) (g : gT) (L : lT) (h_g : FW wA_fX2_findAsked_10 wB_fX2_findAsked_10 g0 g) : Kp wA_fX2_findAsked_10 wB_fX2_findAsked_10 g0 (fX2_findAsked_10 fu g L) := by
  unfold fX2_findAsked_10
  refine kp_stF (by decide) h_g (fun g1 h_g1 => ?_)
  refine kp_lti (fun x2 => ?_)
  exact w_fX2_findAsked_10_l15 _ _ _ _ _ h_g1
abbrev wA_fX2_takeIfOnTime_10 : List (Nat × Nat) := [(10, 8)]
abbrev wB_fX2_takeIfOnTime_10 : List Nat := [51]
theorem w_fX2_takeIfOnTime_10_p41 (g0 : gT) (fu : Nat) (g : gT) (L : lT) (h_g : FW wA_fX2_takeIfOnTime_10 wB_fX2_takeIfOnTime_10 g0 g) : Kp wA_fX2_takeIfOnTime_10 wB_fX2_takeIfOnTime_10 g0 (fX2_takeIfOnTime_10_p41 fu g L) := by
  unfold fX2_takeIfOnTime_10_p41
  exact kp_some h_g
theorem w_fX2_takeIfOnTime_10 (g0 : gT) (fu : Nat) (p1 : Int32) (g : gT) (L : lT) (h_g : FW wA_fX2_takeIfOnTime_10 wB_fX2_takeIfOnTime_10 g0 g) : Kp wA_fX2_takeIfOnTime_10 wB_fX2_takeIfOnTime_10 g0 (fX2_takeIfOnTime_10 fu p1 g L) := by
  unfold fX2_takeIfOnTime_10
  refine kp_cb (w_fX1_late_8 _ _ _ _ _ FW.refl) rfl rfl h_g (fun x1 g2 L3 h_g2 => ?_)
  refine kp_ite ?_ ?_
  ·
    exact w_fX2_takeIfOnTime_10_p41 _ _ _ _ h_g2
  ·
    refine kp_stF (by decide) h_g2 (fun g6 h_g6 => ?_)
    refine kp_stA (by decide) h_g6 (fun g7 h_g7 => ?_)
    exact w_fX2_takeIfOnTime_10_p41 _ _ _ _ h_g7
abbrev wA_fX2_tryGapsOf_10 : List (Nat × Nat) := [(10, 8)]
abbrev wB_fX2_tryGapsOf_10 : List Nat := [21, 26, 43, 44, 45, 46, 47, 48, 51]
theorem w_fX2_tryGapsOf_10_p64 (g0 : gT) (fu : Nat) (rc : Int32 → Int32 → gT → lT → Option ((Unit) × zS)) (k5 : Int32 × Int32 × gT × lT → Option ((Unit) × zS)) (v1 : Int32) (v2 : Int32) (v3 : Int32) (v4 : Int32) (g : gT) (L : lT) (hrc : ∀ p q g L, Kp wA_fX2_tryGapsOf_10 wB_fX2_tryGapsOf_10 g (rc p q g L)) (hk5 : ∀ v : Int32 × Int32 × gT × lT, FW wA_fX2_tryGapsOf_10 wB_fX2_tryGapsOf_10 g0 (v.2.2.1) → Kp wA_fX2_tryGapsOf_10 wB_fX2_tryGapsOf_10 g0 (k5 v)) (h_g : FW wA_fX2_tryGapsOf_10 wB_fX2_tryGapsOf_10 g0 g) : Kp wA_fX2_tryGapsOf_10 wB_fX2_tryGapsOf_10 g0 (fX2_tryGapsOf_10_p64 fu rc k5 v1 v2 v3 v4 g L) := by
  unfold fX2_tryGapsOf_10_p64
  exact hk5 _ h_g
theorem w_fX2_tryGapsOf_10_s5 (g0 : gT) (fu : Nat) (rc : Int32 → Int32 → gT → lT → Option ((Unit) × zS)) (v1 : Int32) (v2 : Int32) (k5 : Int32 × Int32 × gT × lT → Option ((Unit) × zS)) (v3 : Int32) (v4 : Int32) (g : gT) (L : lT) (hrc : ∀ p q g L, Kp wA_fX2_tryGapsOf_10 wB_fX2_tryGapsOf_10 g (rc p q g L)) (hk5 : ∀ v : Int32 × Int32 × gT × lT, FW wA_fX2_tryGapsOf_10 wB_fX2_tryGapsOf_10 g0 (v.2.2.1) → Kp wA_fX2_tryGapsOf_10 wB_fX2_tryGapsOf_10 g0 (k5 v)) (h_g : FW wA_fX2_tryGapsOf_10 wB_fX2_tryGapsOf_10 g0 g) : Kp wA_fX2_tryGapsOf_10 wB_fX2_tryGapsOf_10 g0 (fX2_tryGapsOf_10_s5 fu rc v1 v2 k5 v3 v4 g L) := by
  unfold fX2_tryGapsOf_10_s5
  refine kp_ite ?_ ?_
  ·
    exact kp_some h_g
  ·
    refine kp_ck ?_
    refine kp_stB (by decide) h_g (fun g2 h_g2 => ?_)
    refine kp_cb (w_fX1_runOne_8 _ _ _ _ _ FW.refl) rfl rfl h_g2 (fun x3 g4 L5 h_g4 => ?_)
    refine kp_ck ?_
    refine kp_ite ?_ ?_
    ·
      exact w_fX2_tryGapsOf_10_p64 _ _ _ _ _ _ _ _ _ _ hrc hk5 h_g4
    ·
      refine kp_ck ?_
      refine kp_lti (fun x8 => ?_)
      refine kp_cb (hrc _ _ _ _) rfl rfl h_g4 (fun x9 g10 L11 h_g10 => ?_)
      exact w_fX2_tryGapsOf_10_p64 _ _ _ _ _ _ _ _ _ _ hrc hk5 h_g10
theorem w_fX2_tryGapsOf_10_l5 (g0 : gT) (fu : Nat) (rc : Int32 → Int32 → gT → lT → Option ((Unit) × zS)) (v1 : Int32) (v2 : Int32) (v3 : Int32) (v4 : Int32) (g : gT) (L : lT) (hrc : ∀ p q g L, Kp wA_fX2_tryGapsOf_10 wB_fX2_tryGapsOf_10 g (rc p q g L)) (h_g : FW wA_fX2_tryGapsOf_10 wB_fX2_tryGapsOf_10 g0 g) : Kp wA_fX2_tryGapsOf_10 wB_fX2_tryGapsOf_10 g0 (fX2_tryGapsOf_10_l5 fu rc v1 v2 v3 v4 g L) := by
  unfold fX2_tryGapsOf_10_l5
  exact kp_loop (fun v => v.2.2.1) (fun k_ hk_ v hv_ => w_fX2_tryGapsOf_10_s5 _ _ _ _ _ _ _ _ _ _ hrc hk_ hv_) h_g
theorem w_fX2_tryGapsOf_10 (g0 : gT) (fu : Nat) (rc : Int32 → Int32 → gT → lT → Option ((Unit) × zS)) (p1 : Int32) (p2 : Int32) (g : gT) (L : lT) (hrc : ∀ p q g L, Kp wA_fX2_tryGapsOf_10 wB_fX2_tryGapsOf_10 g (rc p q g L)) (h_g : FW wA_fX2_tryGapsOf_10 wB_fX2_tryGapsOf_10 g0 g) : Kp wA_fX2_tryGapsOf_10 wB_fX2_tryGapsOf_10 g0 (fX2_tryGapsOf_10 fu rc p1 p2 g L) := by
  unfold fX2_tryGapsOf_10
  exact w_fX2_tryGapsOf_10_l5 _ _ _ _ _ _ _ _ _ hrc h_g
abbrev wA_fX2_tryFrom_10B : List (Nat × Nat) := [(10, 8)]
abbrev wB_fX2_tryFrom_10B : List Nat := [21, 26, 43, 44, 45, 46, 47, 48, 51]
theorem w_fX2_tryFrom_10_p89 (g0 : gT) (fu : Nat) (rc : Int32 → Int32 → gT → lT → Option ((Unit) × zS)) (g : gT) (L : lT) (hrc : ∀ p q g L, Kp wA_fX2_tryFrom_10B wB_fX2_tryFrom_10B g (rc p q g L)) (h_g : FW wA_fX2_tryFrom_10B wB_fX2_tryFrom_10B g0 g) : Kp wA_fX2_tryFrom_10B wB_fX2_tryFrom_10B g0 (fX2_tryFrom_10_p89 fu rc g L) := by
  unfold fX2_tryFrom_10_p89
  exact kp_some h_g
theorem w_fX2_tryFrom_10_p23 (g0 : gT) (fu : Nat) (rc : Int32 → Int32 → gT → lT → Option ((Unit) × zS)) (v2 : Int32) (g : gT) (L : lT) (hrc : ∀ p q g L, Kp wA_fX2_tryFrom_10B wB_fX2_tryFrom_10B g (rc p q g L)) (h_g : FW wA_fX2_tryFrom_10B wB_fX2_tryFrom_10B g0 g) : Kp wA_fX2_tryFrom_10B wB_fX2_tryFrom_10B g0 (fX2_tryFrom_10_p23 fu rc v2 g L) := by
  unfold fX2_tryFrom_10_p23
  refine kp_cb (w_fX2_takeIfOnTime_10 _ _ _ _ _ FW.refl) rfl rfl h_g (fun x2 g3 L4 h_g3 => ?_)
  exact w_fX2_tryFrom_10_p89 _ _ _ _ _ hrc h_g3
theorem w_fX2_tryFrom_10B (g0 : gT) (fu : Nat) (rc : Int32 → Int32 → gT → lT → Option ((Unit) × zS)) (p1 : Int32) (p2 : Int32) (g : gT) (L : lT) (hrc : ∀ p q g L, Kp wA_fX2_tryFrom_10B wB_fX2_tryFrom_10B g (rc p q g L)) (h_g : FW wA_fX2_tryFrom_10B wB_fX2_tryFrom_10B g0 g) : Kp wA_fX2_tryFrom_10B wB_fX2_tryFrom_10B g0 (fX2_tryFrom_10B fu rc p1 p2 g L) := by
  unfold fX2_tryFrom_10B
  refine kp_ite ?_ ?_
  ·
    refine kp_ite ?_ ?_
    ·
      exact w_fX2_tryFrom_10_p23 _ _ _ _ _ _ hrc h_g
    ·
      refine kp_ite ?_ ?_
      ·
        refine kp_cb (w_fX2_isIn _ _ _ _ _ _ FW.refl) rfl rfl h_g (fun x8 g9 L10 h_g9 => ?_)
        refine kp_ite ?_ ?_
        ·
          refine kp_cb (hrc _ _ _ _) rfl rfl h_g9 (fun x30 g31 L32 h_g31 => ?_)
          exact w_fX2_tryFrom_10_p89 _ _ _ _ _ hrc h_g31
        ·
          refine kp_cb (w_fX2_isIn _ _ _ _ _ _ FW.refl) rfl rfl h_g9 (fun x13 g14 L15 h_g14 => ?_)
          refine kp_ite ?_ ?_
          ·
            refine kp_cb (w_fX1_runOne_8 _ _ _ _ _ FW.refl) rfl rfl h_g14 (fun x22 g23 L24 h_g23 => ?_)
            refine kp_cb (hrc _ _ _ _) rfl rfl h_g23 (fun x26 g27 L28 h_g27 => ?_)
            exact w_fX2_tryFrom_10_p89 _ _ _ _ _ hrc h_g27
          ·
            refine kp_cb (w_fX2_tryGapsOf_10 _ _ _ _ _ _ _ hrc FW.refl) rfl rfl h_g14 (fun x18 g19 L20 h_g19 => ?_)
            exact w_fX2_tryFrom_10_p89 _ _ _ _ _ hrc h_g19
      ·
        exact w_fX2_tryFrom_10_p23 _ _ _ _ _ _ hrc h_g
  ·
    exact kp_some h_g
theorem wl_fX2_tryFrom_10 (fu : Nat) : ∀ (n : Nat) (p q : Int32) (g : gT) (L : lT), Kp wA_fX2_tryFrom_10B wB_fX2_tryFrom_10B g (fX2_tryFrom_10 fu n p q g L) := by
  intro n
  induction n with
  | zero => exact fun p q g L => kp_none
  | succ n ih => exact fun p q g L => w_fX2_tryFrom_10B _ _ _ _ _ _ _ ih FW.refl
abbrev wA_fX2_fewest_10 : List (Nat × Nat) := [(10, 4), (10, 5), (10, 6), (10, 7), (10, 8)]
abbrev wB_fX2_fewest_10 : List Nat := [21, 26, 43, 44, 45, 46, 47, 48, 50, 51]
theorem w_fX2_fewest_10_p130 (g0 : gT) (fu : Nat) (t0 : Int32) (g : gT) (L : lT) (h_g : FW wA_fX2_fewest_10 wB_fX2_fewest_10 g0 g) : Kp wA_fX2_fewest_10 wB_fX2_fewest_10 g0 (fX2_fewest_10_p130 fu t0 g L) := by
  unfold fX2_fewest_10_p130
  exact kp_some h_g
theorem w_fX2_fewest_10_p82 (g0 : gT) (fu : Nat) (k46 : Int32 × gT × lT → Option ((Int32) × zS)) (v1 : Int32) (v4 : Int32) (t0 : Int32) (t1 : Int32) (g : gT) (L : lT) (hk46 : ∀ v : Int32 × gT × lT, FW wA_fX2_fewest_10 wB_fX2_fewest_10 g0 (v.2.1) → Kp wA_fX2_fewest_10 wB_fX2_fewest_10 g0 (k46 v)) (h_g : FW wA_fX2_fewest_10 wB_fX2_fewest_10 g0 g) : Kp wA_fX2_fewest_10 wB_fX2_fewest_10 g0 (fX2_fewest_10_p82 fu k46 v1 v4 t0 t1 g L) := by
  unfold fX2_fewest_10_p82
  refine kp_ck ?_
  refine kp_stB (by decide) h_g (fun g21 h_g21 => ?_)
  exact hk46 _ h_g21
theorem w_fX2_fewest_10_s46 (g0 : gT) (fu : Nat) (v1 : Int32) (k46 : Int32 × gT × lT → Option ((Int32) × zS)) (v4 : Int32) (g : gT) (L : lT) (hk46 : ∀ v : Int32 × gT × lT, FW wA_fX2_fewest_10 wB_fX2_fewest_10 g0 (v.2.1) → Kp wA_fX2_fewest_10 wB_fX2_fewest_10 g0 (k46 v)) (h_g : FW wA_fX2_fewest_10 wB_fX2_fewest_10 g0 g) : Kp wA_fX2_fewest_10 wB_fX2_fewest_10 g0 (fX2_fewest_10_s46 fu v1 k46 v4 g L) := by
  unfold fX2_fewest_10_s46
  refine kp_ite ?_ ?_
  ·
    refine kp_cb (wl_fX2_tryFrom_10 _ _ _ _ _ _) rfl rfl h_g (fun x11 g12 L13 h_g12 => ?_)
    refine kp_stA (by decide) h_g12 (fun g15 h_g15 => ?_)
    refine kp_ite ?_ ?_
    ·
      exact w_fX2_fewest_10_p130 _ _ _ _ _ h_g15
    ·
      exact w_fX2_fewest_10_p130 _ _ _ _ _ h_g15
  ·
    refine kp_cb (w_fX2_isIn _ _ _ _ _ _ FW.refl) rfl rfl h_g (fun x17 g18 L19 h_g18 => ?_)
    refine kp_ite ?_ ?_
    ·
      refine kp_ck ?_
      exact w_fX2_fewest_10_p82 _ _ _ _ _ _ _ _ _ hk46 h_g18
    ·
      exact w_fX2_fewest_10_p82 _ _ _ _ _ _ _ _ _ hk46 h_g18
theorem w_fX2_fewest_10_l46 (g0 : gT) (fu : Nat) (v1 : Int32) (v4 : Int32) (g : gT) (L : lT) (h_g : FW wA_fX2_fewest_10 wB_fX2_fewest_10 g0 g) : Kp wA_fX2_fewest_10 wB_fX2_fewest_10 g0 (fX2_fewest_10_l46 fu v1 v4 g L) := by
  unfold fX2_fewest_10_l46
  exact kp_loop (fun v => v.2.1) (fun k_ hk_ v hv_ => w_fX2_fewest_10_s46 _ _ _ _ _ _ _ hk_ hv_) h_g
theorem w_fX2_fewest_10 (g0 : gT) (fu : Nat) (p1 : Int32) (p2 : Int32) (p3 : Int32) (g : gT) (L : lT) (h_g : FW wA_fX2_fewest_10 wB_fX2_fewest_10 g0 g) : Kp wA_fX2_fewest_10 wB_fX2_fewest_10 g0 (fX2_fewest_10 fu p1 p2 p3 g L) := by
  unfold fX2_fewest_10
  refine kp_stF (by decide) h_g (fun g1 h_g1 => ?_)
  refine kp_stF (by decide) h_g1 (fun g2 h_g2 => ?_)
  refine kp_stF (by decide) h_g2 (fun g3 h_g3 => ?_)
  refine kp_stF (by decide) h_g3 (fun g4 h_g4 => ?_)
  refine kp_cb (w_fX2_findAsked_10 _ _ _ _ FW.refl) rfl rfl h_g4 (fun x5 g6 L7 h_g6 => ?_)
  refine kp_stA (by decide) h_g6 (fun g9 h_g9 => ?_)
  exact w_fX2_fewest_10_l46 _ _ _ _ _ _ h_g9
abbrev wA_fX0_findUnsure_11 : List (Nat × Nat) := [(11, 2), (11, 3)]
abbrev wB_fX0_findUnsure_11 : List Nat := [52]
theorem w_fX0_findUnsure_11_p104 (g0 : gT) (fu : Nat) (k17 : Int32 × gT × lT → Option ((Unit) × zS)) (v1 : Int32) (v2 : Int32) (g : gT) (L : lT) (hk17 : ∀ v : Int32 × gT × lT, FW wA_fX0_findUnsure_11 wB_fX0_findUnsure_11 g0 (v.2.1) → Kp wA_fX0_findUnsure_11 wB_fX0_findUnsure_11 g0 (k17 v)) (h_g : FW wA_fX0_findUnsure_11 wB_fX0_findUnsure_11 g0 g) : Kp wA_fX0_findUnsure_11 wB_fX0_findUnsure_11 g0 (fX0_findUnsure_11_p104 fu k17 v1 v2 g L) := by
  unfold fX0_findUnsure_11_p104
  exact hk17 _ h_g
theorem w_fX0_findUnsure_11_s17 (g0 : gT) (fu : Nat) (v1 : Int32) (k17 : Int32 × gT × lT → Option ((Unit) × zS)) (v2 : Int32) (g : gT) (L : lT) (hk17 : ∀ v : Int32 × gT × lT, FW wA_fX0_findUnsure_11 wB_fX0_findUnsure_11 g0 (v.2.1) → Kp wA_fX0_findUnsure_11 wB_fX0_findUnsure_11 g0 (k17 v)) (h_g : FW wA_fX0_findUnsure_11 wB_fX0_findUnsure_11 g0 g) : Kp wA_fX0_findUnsure_11 wB_fX0_findUnsure_11 g0 (fX0_findUnsure_11_s17 fu v1 k17 v2 g L) := by
  unfold fX0_findUnsure_11_s17
  refine kp_ite ?_ ?_
  ·
    exact kp_some h_g
  ·
    refine kp_ck ?_
    refine kp_ltn (fun q5 e_ => ?_)
    refine kp_lti (fun x6 => ?_)
    refine kp_ite ?_ ?_
    ·
      refine kp_stF (by decide) h_g (fun g13 h_g13 => ?_)
      exact w_fX0_findUnsure_11_p104 _ _ _ _ _ _ _ hk17 h_g13
    ·
      refine kp_ite ?_ ?_
      ·
        exact w_fX0_findUnsure_11_p104 _ _ _ _ _ _ _ hk17 h_g
      ·
        refine kp_ite ?_ ?_
        ·
          exact w_fX0_findUnsure_11_p104 _ _ _ _ _ _ _ hk17 h_g
        ·
          refine kp_ck ?_
          refine kp_stB (by decide) h_g (fun g10 h_g10 => ?_)
          refine kp_stF (by decide) h_g10 (fun g11 h_g11 => ?_)
          refine kp_stl (fun L12 => ?_)
          exact w_fX0_findUnsure_11_p104 _ _ _ _ _ _ _ hk17 h_g11
theorem w_fX0_findUnsure_11_l17 (g0 : gT) (fu : Nat) (v1 : Int32) (v2 : Int32) (g : gT) (L : lT) (h_g : FW wA_fX0_findUnsure_11 wB_fX0_findUnsure_11 g0 g) : Kp wA_fX0_findUnsure_11 wB_fX0_findUnsure_11 g0 (fX0_findUnsure_11_l17 fu v1 v2 g L) := by
  unfold fX0_findUnsure_11_l17
  exact kp_loop (fun v => v.2.1) (fun k_ hk_ v hv_ => w_fX0_findUnsure_11_s17 _ _ _ _ _ _ _ hk_ hv_) h_g
theorem w_fX0_findUnsure_11 (g0 : gT) (fu : Nat) (p1 : Int32) (g : gT) (L : lT) (h_g : FW wA_fX0_findUnsure_11 wB_fX0_findUnsure_11 g0 g) : Kp wA_fX0_findUnsure_11 wB_fX0_findUnsure_11 g0 (fX0_findUnsure_11 fu p1 g L) := by
  unfold fX0_findUnsure_11
  refine kp_stF (by decide) h_g (fun g1 h_g1 => ?_)
  refine kp_stF (by decide) h_g1 (fun g2 h_g2 => ?_)
  refine kp_stl (fun L3 => ?_)
  exact w_fX0_findUnsure_11_l17 _ _ _ _ _ _ h_g2
abbrev wA_fX0_reduce_11 : List (Nat × Nat) := []
abbrev wB_fX0_reduce_11 : List Nat := []
theorem w_fX0_reduce_11_p69 (g0 : gT) (fu : Nat) (g : gT) (L : lT) (h_g : FW wA_fX0_reduce_11 wB_fX0_reduce_11 g0 g) : Kp wA_fX0_reduce_11 wB_fX0_reduce_11 g0 (fX0_reduce_11_p69 fu g L) := by
  unfold fX0_reduce_11_p69
  exact kp_some h_g
theorem w_fX0_reduce_11_p43 (g0 : gT) (fu : Nat) (v1 : Int64) (g : gT) (L : lT) (h_g : FW wA_fX0_reduce_11 wB_fX0_reduce_11 g0 g) : Kp wA_fX0_reduce_11 wB_fX0_reduce_11 g0 (fX0_reduce_11_p43 fu v1 g L) := by
  unfold fX0_reduce_11_p43
  refine kp_ite ?_ ?_
  ·
    exact w_fX0_reduce_11_p69 _ _ _ _ h_g
  ·
    refine kp_cnzL ?_
    refine kp_stl (fun L4 => ?_)
    refine kp_cnzL ?_
    refine kp_stl (fun L5 => ?_)
    exact w_fX0_reduce_11_p69 _ _ _ _ h_g
theorem w_fX0_reduce_11_s13 (g0 : gT) (fu : Nat) (k13 : Int64 × Int64 × Int32 × gT × lT → Option ((Unit) × zS)) (v1 : Int64) (v3 : Int64) (v5 : Int32) (g : gT) (L : lT) (hk13 : ∀ v : Int64 × Int64 × Int32 × gT × lT, FW wA_fX0_reduce_11 wB_fX0_reduce_11 g0 (v.2.2.2.1) → Kp wA_fX0_reduce_11 wB_fX0_reduce_11 g0 (k13 v)) (h_g : FW wA_fX0_reduce_11 wB_fX0_reduce_11 g0 g) : Kp wA_fX0_reduce_11 wB_fX0_reduce_11 g0 (fX0_reduce_11_s13 fu k13 v1 v3 v5 g L) := by
  unfold fX0_reduce_11_s13
  refine kp_ite ?_ ?_
  ·
    exact w_fX0_reduce_11_p43 _ _ _ _ _ h_g
  ·
    refine kp_ite ?_ ?_
    ·
      exact w_fX0_reduce_11_p43 _ _ _ _ _ h_g
    ·
      refine kp_cnzL ?_
      refine kp_ltl (fun y8 => ?_)
      exact hk13 _ h_g
theorem w_fX0_reduce_11_l13 (g0 : gT) (fu : Nat) (v1 : Int64) (v3 : Int64) (v5 : Int32) (g : gT) (L : lT) (h_g : FW wA_fX0_reduce_11 wB_fX0_reduce_11 g0 g) : Kp wA_fX0_reduce_11 wB_fX0_reduce_11 g0 (fX0_reduce_11_l13 fu v1 v3 v5 g L) := by
  unfold fX0_reduce_11_l13
  exact kp_loop (fun v => v.2.2.2.1) (fun k_ hk_ v hv_ => w_fX0_reduce_11_s13 _ _ _ _ _ _ _ _ hk_ hv_) h_g
theorem w_fX0_reduce_11 (g0 : gT) (fu : Nat) (g : gT) (L : lT) (h_g : FW wA_fX0_reduce_11 wB_fX0_reduce_11 g0 g) : Kp wA_fX0_reduce_11 wB_fX0_reduce_11 g0 (fX0_reduce_11 fu g L) := by
  unfold fX0_reduce_11
  refine kp_ltl (fun y1 => ?_)
  refine kp_ltl (fun y2 => ?_)
  exact w_fX0_reduce_11_l13 _ _ _ _ _ _ _ h_g
abbrev wA_fX0_runWith_11 : List (Nat × Nat) := [(8, 8)]
abbrev wB_fX0_runWith_11 : List Nat := [21, 43, 44, 45, 46, 47, 48]
theorem w_fX0_runWith_11_s59 (g0 : gT) (fu : Nat) (v2 : Int32) (k59 : Int32 × gT × lT → Option ((Unit) × zS)) (v4 : Int32) (g : gT) (L : lT) (hk59 : ∀ v : Int32 × gT × lT, FW wA_fX0_runWith_11 wB_fX0_runWith_11 g0 (v.2.1) → Kp wA_fX0_runWith_11 wB_fX0_runWith_11 g0 (k59 v)) (h_g : FW wA_fX0_runWith_11 wB_fX0_runWith_11 g0 g) : Kp wA_fX0_runWith_11 wB_fX0_runWith_11 g0 (fX0_runWith_11_s59 fu v2 k59 v4 g L) := by
  unfold fX0_runWith_11_s59
  refine kp_ite ?_ ?_
  ·
    refine kp_stF (by decide) h_g (fun g5 h_g5 => ?_)
    exact kp_some h_g5
  ·
    refine kp_cb (w_fX1_runOne_8 _ _ _ _ _ FW.refl) rfl rfl h_g (fun x6 g7 L8 h_g7 => ?_)
    exact hk59 _ h_g7
theorem w_fX0_runWith_11_l59 (g0 : gT) (fu : Nat) (v2 : Int32) (v4 : Int32) (g : gT) (L : lT) (h_g : FW wA_fX0_runWith_11 wB_fX0_runWith_11 g0 g) : Kp wA_fX0_runWith_11 wB_fX0_runWith_11 g0 (fX0_runWith_11_l59 fu v2 v4 g L) := by
  unfold fX0_runWith_11_l59
  exact kp_loop (fun v => v.2.1) (fun k_ hk_ v hv_ => w_fX0_runWith_11_s59 _ _ _ _ _ _ _ hk_ hv_) h_g
theorem w_fX0_runWith_11_p42 (g0 : gT) (fu : Nat) (k10 : Int32 × Int32 × gT × lT → Option ((Unit) × zS)) (v1 : Int32) (v2 : Int32) (v3 : Int32) (v4 : Int32) (g : gT) (L : lT) (hk10 : ∀ v : Int32 × Int32 × gT × lT, FW wA_fX0_runWith_11 wB_fX0_runWith_11 g0 (v.2.2.1) → Kp wA_fX0_runWith_11 wB_fX0_runWith_11 g0 (k10 v)) (h_g : FW wA_fX0_runWith_11 wB_fX0_runWith_11 g0 g) : Kp wA_fX0_runWith_11 wB_fX0_runWith_11 g0 (fX0_runWith_11_p42 fu k10 v1 v2 v3 v4 g L) := by
  unfold fX0_runWith_11_p42
  exact hk10 _ h_g
theorem w_fX0_runWith_11_s10 (g0 : gT) (fu : Nat) (v1 : Int32) (v2 : Int32) (k10 : Int32 × Int32 × gT × lT → Option ((Unit) × zS)) (v3 : Int32) (v4 : Int32) (g : gT) (L : lT) (hk10 : ∀ v : Int32 × Int32 × gT × lT, FW wA_fX0_runWith_11 wB_fX0_runWith_11 g0 (v.2.2.1) → Kp wA_fX0_runWith_11 wB_fX0_runWith_11 g0 (k10 v)) (h_g : FW wA_fX0_runWith_11 wB_fX0_runWith_11 g0 g) : Kp wA_fX0_runWith_11 wB_fX0_runWith_11 g0 (fX0_runWith_11_s10 fu v1 v2 k10 v3 v4 g L) := by
  unfold fX0_runWith_11_s10
  refine kp_ite ?_ ?_
  ·
    refine kp_stF (by decide) h_g (fun g3 h_g3 => ?_)
    exact w_fX0_runWith_11_l59 _ _ _ _ _ _ h_g3
  ·
    refine kp_ite ?_ ?_
    ·
      refine kp_ck ?_
      refine kp_lti (fun x11 => ?_)
      exact w_fX0_runWith_11_p42 _ _ _ _ _ _ _ _ _ hk10 h_g
    ·
      exact w_fX0_runWith_11_p42 _ _ _ _ _ _ _ _ _ hk10 h_g
theorem w_fX0_runWith_11_l10 (g0 : gT) (fu : Nat) (v1 : Int32) (v2 : Int32) (v3 : Int32) (v4 : Int32) (g : gT) (L : lT) (h_g : FW wA_fX0_runWith_11 wB_fX0_runWith_11 g0 g) : Kp wA_fX0_runWith_11 wB_fX0_runWith_11 g0 (fX0_runWith_11_l10 fu v1 v2 v3 v4 g L) := by
  unfold fX0_runWith_11_l10
  exact kp_loop (fun v => v.2.2.1) (fun k_ hk_ v hv_ => w_fX0_runWith_11_s10 _ _ _ _ _ _ _ _ _ hk_ hv_) h_g
theorem w_fX0_runWith_11 (g0 : gT) (fu : Nat) (p1 : Int32) (p2 : Int32) (g : gT) (L : lT) (h_g : FW wA_fX0_runWith_11 wB_fX0_runWith_11 g0 g) : Kp wA_fX0_runWith_11 wB_fX0_runWith_11 g0 (fX0_runWith_11 fu p1 p2 g L) := by
  unfold fX0_runWith_11
  refine kp_lti (fun x1 => ?_)
  exact w_fX0_runWith_11_l10 _ _ _ _ _ _ _ _ h_g
abbrev wA_fX0_weight_11 : List (Nat × Nat) := []
abbrev wB_fX0_weight_11 : List Nat := []
theorem w_fX0_weight_11_p59 (g0 : gT) (fu : Nat) (k5 : Int64 × Int32 × gT × lT → Option ((Int64) × zS)) (v1 : Int32) (v4 : Int32) (t0 : Int64) (t1 : Int64) (g : gT) (L : lT) (hk5 : ∀ v : Int64 × Int32 × gT × lT, FW wA_fX0_weight_11 wB_fX0_weight_11 g0 (v.2.2.1) → Kp wA_fX0_weight_11 wB_fX0_weight_11 g0 (k5 v)) (h_g : FW wA_fX0_weight_11 wB_fX0_weight_11 g0 g) : Kp wA_fX0_weight_11 wB_fX0_weight_11 g0 (fX0_weight_11_p59 fu k5 v1 v4 t0 t1 g L) := by
  unfold fX0_weight_11_p59
  refine kp_ltl (fun y4 => ?_)
  exact hk5 _ h_g
theorem w_fX0_weight_11_s5 (g0 : gT) (fu : Nat) (v1 : Int32) (k5 : Int64 × Int32 × gT × lT → Option ((Int64) × zS)) (v2 : Int64) (v4 : Int32) (g : gT) (L : lT) (hk5 : ∀ v : Int64 × Int32 × gT × lT, FW wA_fX0_weight_11 wB_fX0_weight_11 g0 (v.2.2.1) → Kp wA_fX0_weight_11 wB_fX0_weight_11 g0 (k5 v)) (h_g : FW wA_fX0_weight_11 wB_fX0_weight_11 g0 g) : Kp wA_fX0_weight_11 wB_fX0_weight_11 g0 (fX0_weight_11_s5 fu v1 k5 v2 v4 g L) := by
  unfold fX0_weight_11_s5
  refine kp_ite ?_ ?_
  ·
    exact kp_some h_g
  ·
    refine kp_ck ?_
    refine kp_ck ?_
    refine kp_ltn (fun q2 e_ => ?_)
    refine kp_lti (fun x3 => ?_)
    refine kp_ite ?_ ?_
    ·
      exact w_fX0_weight_11_p59 _ _ _ _ _ _ _ _ _ hk5 h_g
    ·
      exact w_fX0_weight_11_p59 _ _ _ _ _ _ _ _ _ hk5 h_g
theorem w_fX0_weight_11_l5 (g0 : gT) (fu : Nat) (v1 : Int32) (v2 : Int64) (v4 : Int32) (g : gT) (L : lT) (h_g : FW wA_fX0_weight_11 wB_fX0_weight_11 g0 g) : Kp wA_fX0_weight_11 wB_fX0_weight_11 g0 (fX0_weight_11_l5 fu v1 v2 v4 g L) := by
  unfold fX0_weight_11_l5
  exact kp_loop (fun v => v.2.2.1) (fun k_ hk_ v hv_ => w_fX0_weight_11_s5 _ _ _ _ _ _ _ _ hk_ hv_) h_g
theorem w_fX0_weight_11 (g0 : gT) (fu : Nat) (p1 : Int32) (g : gT) (L : lT) (h_g : FW wA_fX0_weight_11 wB_fX0_weight_11 g0 g) : Kp wA_fX0_weight_11 wB_fX0_weight_11 g0 (fX0_weight_11 fu p1 g L) := by
  unfold fX0_weight_11
  exact w_fX0_weight_11_l5 _ _ _ _ _ _ _ h_g
abbrev wA_fX0_ofLate_11 : List (Nat × Nat) := [(8, 8), (11, 2), (11, 3)]
abbrev wB_fX0_ofLate_11 : List Nat := [21, 43, 44, 45, 46, 47, 48, 52]
theorem w_fX0_ofLate_11_p54 (g0 : gT) (fu : Nat) (k12 : Int32 × gT × lT → Option ((Unit) × zS)) (v1 : Int32) (v2 : Int32) (v3 : Int32) (g : gT) (L : lT) (hk12 : ∀ v : Int32 × gT × lT, FW wA_fX0_ofLate_11 wB_fX0_ofLate_11 g0 (v.2.1) → Kp wA_fX0_ofLate_11 wB_fX0_ofLate_11 g0 (k12 v)) (h_g : FW wA_fX0_ofLate_11 wB_fX0_ofLate_11 g0 g) : Kp wA_fX0_ofLate_11 wB_fX0_ofLate_11 g0 (fX0_ofLate_11_p54 fu k12 v1 v2 v3 g L) := by
  unfold fX0_ofLate_11_p54
  exact hk12 _ h_g
theorem w_fX0_ofLate_11_s12 (g0 : gT) (fu : Nat) (v1 : Int32) (v2 : Int32) (k12 : Int32 × gT × lT → Option ((Unit) × zS)) (v3 : Int32) (g : gT) (L : lT) (hk12 : ∀ v : Int32 × gT × lT, FW wA_fX0_ofLate_11 wB_fX0_ofLate_11 g0 (v.2.1) → Kp wA_fX0_ofLate_11 wB_fX0_ofLate_11 g0 (k12 v)) (h_g : FW wA_fX0_ofLate_11 wB_fX0_ofLate_11 g0 g) : Kp wA_fX0_ofLate_11 wB_fX0_ofLate_11 g0 (fX0_ofLate_11_s12 fu v1 v2 k12 v3 g L) := by
  unfold fX0_ofLate_11_s12
  refine kp_ite ?_ ?_
  ·
    refine kp_cb (w_fX0_reduce_11 _ _ _ _ FW.refl) rfl rfl h_g (fun x7 g8 L9 h_g8 => ?_)
    exact kp_some h_g8
  ·
    refine kp_cb (w_fX0_runWith_11 _ _ _ _ _ _ FW.refl) rfl rfl h_g (fun x11 g12 L13 h_g12 => ?_)
    refine kp_cb (w_fX1_late_8 _ _ _ _ _ FW.refl) rfl rfl h_g12 (fun x15 g16 L17 h_g16 => ?_)
    refine kp_ite ?_ ?_
    ·
      exact w_fX0_ofLate_11_p54 _ _ _ _ _ _ _ _ hk12 h_g16
    ·
      refine kp_cb (w_fX0_weight_11 _ _ _ _ _ FW.refl) rfl rfl h_g16 (fun x20 g21 L22 h_g21 => ?_)
      refine kp_stl (fun L24 => ?_)
      exact w_fX0_ofLate_11_p54 _ _ _ _ _ _ _ _ hk12 h_g21
theorem w_fX0_ofLate_11_l12 (g0 : gT) (fu : Nat) (v1 : Int32) (v2 : Int32) (v3 : Int32) (g : gT) (L : lT) (h_g : FW wA_fX0_ofLate_11 wB_fX0_ofLate_11 g0 g) : Kp wA_fX0_ofLate_11 wB_fX0_ofLate_11 g0 (fX0_ofLate_11_l12 fu v1 v2 v3 g L) := by
  unfold fX0_ofLate_11_l12
  exact kp_loop (fun v => v.2.1) (fun k_ hk_ v hv_ => w_fX0_ofLate_11_s12 _ _ _ _ _ _ _ _ hk_ hv_) h_g
theorem w_fX0_ofLate_11 (g0 : gT) (fu : Nat) (p1 : Int32) (p2 : Int32) (g : gT) (L : lT) (h_g : FW wA_fX0_ofLate_11 wB_fX0_ofLate_11 g0 g) : Kp wA_fX0_ofLate_11 wB_fX0_ofLate_11 g0 (fX0_ofLate_11 fu p1 p2 g L) := by
  unfold fX0_ofLate_11
  refine kp_cb (w_fX0_findUnsure_11 _ _ _ _ _ FW.refl) rfl rfl h_g (fun x1 g2 L3 h_g2 => ?_)
  refine kp_stl (fun L5 => ?_)
  exact w_fX0_ofLate_11_l12 _ _ _ _ _ _ _ h_g2
abbrev wA_fX0_meanLate_11 : List (Nat × Nat) := [(8, 8), (11, 2), (11, 3)]
abbrev wB_fX0_meanLate_11 : List Nat := [21, 43, 44, 45, 46, 47, 48, 52]
theorem w_fX0_meanLate_11_s12 (g0 : gT) (fu : Nat) (v1 : Int32) (k12 : Int32 × gT × lT → Option ((Unit) × zS)) (v2 : Int32) (g : gT) (L : lT) (hk12 : ∀ v : Int32 × gT × lT, FW wA_fX0_meanLate_11 wB_fX0_meanLate_11 g0 (v.2.1) → Kp wA_fX0_meanLate_11 wB_fX0_meanLate_11 g0 (k12 v)) (h_g : FW wA_fX0_meanLate_11 wB_fX0_meanLate_11 g0 g) : Kp wA_fX0_meanLate_11 wB_fX0_meanLate_11 g0 (fX0_meanLate_11_s12 fu v1 k12 v2 g L) := by
  unfold fX0_meanLate_11_s12
  refine kp_ite ?_ ?_
  ·
    refine kp_cb (w_fX0_reduce_11 _ _ _ _ FW.refl) rfl rfl h_g (fun x7 g8 L9 h_g8 => ?_)
    exact kp_some h_g8
  ·
    refine kp_cb (w_fX0_runWith_11 _ _ _ _ _ _ FW.refl) rfl rfl h_g (fun x11 g12 L13 h_g12 => ?_)
    refine kp_cb (w_fX0_weight_11 _ _ _ _ _ FW.refl) rfl rfl h_g12 (fun x15 g16 L17 h_g16 => ?_)
    refine kp_cb (w_fX1_late_8 _ _ _ _ _ FW.refl) rfl rfl h_g16 (fun x19 g20 L21 h_g20 => ?_)
    refine kp_stl (fun L23 => ?_)
    exact hk12 _ h_g20
theorem w_fX0_meanLate_11_l12 (g0 : gT) (fu : Nat) (v1 : Int32) (v2 : Int32) (g : gT) (L : lT) (h_g : FW wA_fX0_meanLate_11 wB_fX0_meanLate_11 g0 g) : Kp wA_fX0_meanLate_11 wB_fX0_meanLate_11 g0 (fX0_meanLate_11_l12 fu v1 v2 g L) := by
  unfold fX0_meanLate_11_l12
  exact kp_loop (fun v => v.2.1) (fun k_ hk_ v hv_ => w_fX0_meanLate_11_s12 _ _ _ _ _ _ _ hk_ hv_) h_g
theorem w_fX0_meanLate_11 (g0 : gT) (fu : Nat) (p1 : Int32) (g : gT) (L : lT) (h_g : FW wA_fX0_meanLate_11 wB_fX0_meanLate_11 g0 g) : Kp wA_fX0_meanLate_11 wB_fX0_meanLate_11 g0 (fX0_meanLate_11 fu p1 g L) := by
  unfold fX0_meanLate_11
  refine kp_cb (w_fX0_findUnsure_11 _ _ _ _ _ FW.refl) rfl rfl h_g (fun x1 g2 L3 h_g2 => ?_)
  refine kp_stl (fun L5 => ?_)
  exact w_fX0_meanLate_11_l12 _ _ _ _ _ _ h_g2
abbrev wA_fX0_drawOfTen_11 : List (Nat × Nat) := [(11, 4)]
abbrev wB_fX0_drawOfTen_11 : List Nat := []
theorem w_fX0_drawOfTen_11 (g0 : gT) (fu : Nat) (g : gT) (L : lT) (h_g : FW wA_fX0_drawOfTen_11 wB_fX0_drawOfTen_11 g0 g) : Kp wA_fX0_drawOfTen_11 wB_fX0_drawOfTen_11 g0 (fX0_drawOfTen_11 fu g L) := by
  unfold fX0_drawOfTen_11
  refine kp_stF (by decide) h_g (fun g1 h_g1 => ?_)
  refine kp_cnz ?_
  exact kp_some h_g1
abbrev wA_fX0_drawRunning_11 : List (Nat × Nat) := [(11, 4)]
abbrev wB_fX0_drawRunning_11 : List Nat := []
theorem w_fX0_drawRunning_11_p54 (g0 : gT) (fu : Nat) (k4 : Int32 × Int32 × gT × lT → Option ((Int32) × zS)) (v1 : Int32) (v2 : Int32) (g : gT) (L : lT) (hk4 : ∀ v : Int32 × Int32 × gT × lT, FW wA_fX0_drawRunning_11 wB_fX0_drawRunning_11 g0 (v.2.2.1) → Kp wA_fX0_drawRunning_11 wB_fX0_drawRunning_11 g0 (k4 v)) (h_g : FW wA_fX0_drawRunning_11 wB_fX0_drawRunning_11 g0 g) : Kp wA_fX0_drawRunning_11 wB_fX0_drawRunning_11 g0 (fX0_drawRunning_11_p54 fu k4 v1 v2 g L) := by
  unfold fX0_drawRunning_11_p54
  exact hk4 _ h_g
theorem w_fX0_drawRunning_11_p48 (g0 : gT) (fu : Nat) (k4 : Int32 × Int32 × gT × lT → Option ((Int32) × zS)) (v1 : Int32) (v2 : Int32) (g : gT) (L : lT) (hk4 : ∀ v : Int32 × Int32 × gT × lT, FW wA_fX0_drawRunning_11 wB_fX0_drawRunning_11 g0 (v.2.2.1) → Kp wA_fX0_drawRunning_11 wB_fX0_drawRunning_11 g0 (k4 v)) (h_g : FW wA_fX0_drawRunning_11 wB_fX0_drawRunning_11 g0 g) : Kp wA_fX0_drawRunning_11 wB_fX0_drawRunning_11 g0 (fX0_drawRunning_11_p48 fu k4 v1 v2 g L) := by
  unfold fX0_drawRunning_11_p48
  refine kp_lti (fun x4 => ?_)
  exact w_fX0_drawRunning_11_p54 _ _ _ _ _ _ _ hk4 h_g
theorem w_fX0_drawRunning_11_s4 (g0 : gT) (fu : Nat) (k4 : Int32 × Int32 × gT × lT → Option ((Int32) × zS)) (v1 : Int32) (v2 : Int32) (g : gT) (L : lT) (hk4 : ∀ v : Int32 × Int32 × gT × lT, FW wA_fX0_drawRunning_11 wB_fX0_drawRunning_11 g0 (v.2.2.1) → Kp wA_fX0_drawRunning_11 wB_fX0_drawRunning_11 g0 (k4 v)) (h_g : FW wA_fX0_drawRunning_11 wB_fX0_drawRunning_11 g0 g) : Kp wA_fX0_drawRunning_11 wB_fX0_drawRunning_11 g0 (fX0_drawRunning_11_s4 fu k4 v1 v2 g L) := by
  unfold fX0_drawRunning_11_s4
  refine kp_ite ?_ ?_
  ·
    exact kp_some h_g
  ·
    refine kp_ck ?_
    refine kp_ltn (fun q2 e_ => ?_)
    refine kp_lti (fun x3 => ?_)
    refine kp_ite ?_ ?_
    ·
      exact w_fX0_drawRunning_11_p48 _ _ _ _ _ _ _ hk4 h_g
    ·
      refine kp_cb (w_fX0_drawOfTen_11 _ _ _ _ FW.refl) rfl rfl h_g (fun x6 g7 L8 h_g7 => ?_)
      refine kp_ite ?_ ?_
      ·
        exact w_fX0_drawRunning_11_p54 _ _ _ _ _ _ _ hk4 h_g7
      ·
        exact w_fX0_drawRunning_11_p48 _ _ _ _ _ _ _ hk4 h_g7
theorem w_fX0_drawRunning_11_l4 (g0 : gT) (fu : Nat) (v1 : Int32) (v2 : Int32) (g : gT) (L : lT) (h_g : FW wA_fX0_drawRunning_11 wB_fX0_drawRunning_11 g0 g) : Kp wA_fX0_drawRunning_11 wB_fX0_drawRunning_11 g0 (fX0_drawRunning_11_l4 fu v1 v2 g L) := by
  unfold fX0_drawRunning_11_l4
  exact kp_loop (fun v => v.2.2.1) (fun k_ hk_ v hv_ => w_fX0_drawRunning_11_s4 _ _ _ _ _ _ _ hk_ hv_) h_g
theorem w_fX0_drawRunning_11 (g0 : gT) (fu : Nat) (g : gT) (L : lT) (h_g : FW wA_fX0_drawRunning_11 wB_fX0_drawRunning_11 g0 g) : Kp wA_fX0_drawRunning_11 wB_fX0_drawRunning_11 g0 (fX0_drawRunning_11 fu g L) := by
  unfold fX0_drawRunning_11
  exact w_fX0_drawRunning_11_l4 _ _ _ _ _ _ h_g
abbrev wA_fX0_ofTerm_11 : List (Nat × Nat) := [(8, 8), (11, 4)]
abbrev wB_fX0_ofTerm_11 : List Nat := [21, 43, 44, 45, 46, 47, 48]
theorem w_fX0_ofTerm_11_p116 (g0 : gT) (fu : Nat) (t0 : Int32) (g : gT) (L : lT) (h_g : FW wA_fX0_ofTerm_11 wB_fX0_ofTerm_11 g0 g) : Kp wA_fX0_ofTerm_11 wB_fX0_ofTerm_11 g0 (fX0_ofTerm_11_p116 fu t0 g L) := by
  unfold fX0_ofTerm_11_p116
  exact kp_some h_g
theorem w_fX0_ofTerm_11_p78 (g0 : gT) (fu : Nat) (k17 : Int32 × Int32 × Int32 × Int32 × gT × lT → Option ((Int32) × zS)) (v2 : Int32) (v3 : Int32) (v4 : Int32) (v5 : Int32) (v6 : Int32) (v8 : Int32) (t0 : Int32) (t1 : Int32) (g : gT) (L : lT) (hk17 : ∀ v : Int32 × Int32 × Int32 × Int32 × gT × lT, FW wA_fX0_ofTerm_11 wB_fX0_ofTerm_11 g0 (v.2.2.2.2.1) → Kp wA_fX0_ofTerm_11 wB_fX0_ofTerm_11 g0 (k17 v)) (h_g : FW wA_fX0_ofTerm_11 wB_fX0_ofTerm_11 g0 g) : Kp wA_fX0_ofTerm_11 wB_fX0_ofTerm_11 g0 (fX0_ofTerm_11_p78 fu k17 v2 v3 v4 v5 v6 v8 t0 t1 g L) := by
  unfold fX0_ofTerm_11_p78
  refine kp_lti (fun x21 => ?_)
  exact hk17 _ h_g
theorem w_fX0_ofTerm_11_s17 (g0 : gT) (fu : Nat) (v2 : Int32) (v3 : Int32) (v4 : Int32) (k17 : Int32 × Int32 × Int32 × Int32 × gT × lT → Option ((Int32) × zS)) (v5 : Int32) (v6 : Int32) (v7 : Int32) (v8 : Int32) (g : gT) (L : lT) (hk17 : ∀ v : Int32 × Int32 × Int32 × Int32 × gT × lT, FW wA_fX0_ofTerm_11 wB_fX0_ofTerm_11 g0 (v.2.2.2.2.1) → Kp wA_fX0_ofTerm_11 wB_fX0_ofTerm_11 g0 (k17 v)) (h_g : FW wA_fX0_ofTerm_11 wB_fX0_ofTerm_11 g0 g) : Kp wA_fX0_ofTerm_11 wB_fX0_ofTerm_11 g0 (fX0_ofTerm_11_s17 fu v2 v3 v4 k17 v5 v6 v7 v8 g L) := by
  unfold fX0_ofTerm_11_s17
  refine kp_ite ?_ ?_
  ·
    refine kp_stF (by decide) h_g (fun g3 h_g3 => ?_)
    refine kp_ite ?_ ?_
    ·
      exact kp_some h_g3
    ·
      refine kp_ite ?_ ?_
      ·
        exact w_fX0_ofTerm_11_p116 _ _ _ _ _ h_g3
      ·
        exact w_fX0_ofTerm_11_p116 _ _ _ _ _ h_g3
  ·
    refine kp_cb (w_fX0_drawRunning_11 _ _ _ _ FW.refl) rfl rfl h_g (fun x6 g7 L8 h_g7 => ?_)
    refine kp_stF (by decide) h_g7 (fun g10 h_g10 => ?_)
    refine kp_cb (w_fX1_lostFrom_8 _ _ _ _ _ FW.refl) rfl rfl h_g10 (fun x11 g12 L13 h_g12 => ?_)
    refine kp_lti (fun x15 => ?_)
    refine kp_lti (fun x16 => ?_)
    refine kp_cb (w_fX1_late_8 _ _ _ _ _ FW.refl) rfl rfl h_g12 (fun x17 g18 L19 h_g18 => ?_)
    refine kp_ite ?_ ?_
    ·
      exact w_fX0_ofTerm_11_p78 _ _ _ _ _ _ _ _ _ _ _ _ _ hk17 h_g18
    ·
      exact w_fX0_ofTerm_11_p78 _ _ _ _ _ _ _ _ _ _ _ _ _ hk17 h_g18
theorem w_fX0_ofTerm_11_l17 (g0 : gT) (fu : Nat) (v2 : Int32) (v3 : Int32) (v4 : Int32) (v5 : Int32) (v6 : Int32) (v7 : Int32) (v8 : Int32) (g : gT) (L : lT) (h_g : FW wA_fX0_ofTerm_11 wB_fX0_ofTerm_11 g0 g) : Kp wA_fX0_ofTerm_11 wB_fX0_ofTerm_11 g0 (fX0_ofTerm_11_l17 fu v2 v3 v4 v5 v6 v7 v8 g L) := by
  unfold fX0_ofTerm_11_l17
  exact kp_loop (fun v => v.2.2.2.2.1) (fun k_ hk_ v hv_ => w_fX0_ofTerm_11_s17 _ _ _ _ _ _ _ _ _ _ _ _ hk_ hv_) h_g
theorem w_fX0_ofTerm_11 (g0 : gT) (fu : Nat) (p1 : Int32) (p2 : Int32) (p3 : Int32) (p4 : Int32) (g : gT) (L : lT) (h_g : FW wA_fX0_ofTerm_11 wB_fX0_ofTerm_11 g0 g) : Kp wA_fX0_ofTerm_11 wB_fX0_ofTerm_11 g0 (fX0_ofTerm_11 fu p1 p2 p3 p4 g L) := by
  unfold fX0_ofTerm_11
  refine kp_stF (by decide) h_g (fun g1 h_g1 => ?_)
  exact w_fX0_ofTerm_11_l17 _ _ _ _ _ _ _ _ _ _ _ h_g1
abbrev wA_fX9_addWay_12 : List (Nat × Nat) := [(12, 5)]
abbrev wB_fX9_addWay_12 : List Nat := [53, 54, 55, 56]
theorem w_fX9_addWay_12_p106 (g0 : gT) (fu : Nat) (g : gT) (L : lT) (h_g : FW wA_fX9_addWay_12 wB_fX9_addWay_12 g0 g) : Kp wA_fX9_addWay_12 wB_fX9_addWay_12 g0 (fX9_addWay_12_p106 fu g L) := by
  unfold fX9_addWay_12_p106
  exact kp_some h_g
theorem w_fX9_addWay_12 (g0 : gT) (fu : Nat) (p1 : Int32) (p2 : Int32) (g : gT) (L : lT) (h_g : FW wA_fX9_addWay_12 wB_fX9_addWay_12 g0 g) : Kp wA_fX9_addWay_12 wB_fX9_addWay_12 g0 (fX9_addWay_12 fu p1 p2 g L) := by
  unfold fX9_addWay_12
  refine kp_ite ?_ ?_
  ·
    exact w_fX9_addWay_12_p106 _ _ _ _ h_g
  ·
    refine kp_ck ?_
    refine kp_ck ?_
    refine kp_stB (by decide) h_g (fun g2 h_g2 => ?_)
    refine kp_ck ?_
    refine kp_cb (w_fX1_way_8 _ _ _ _ _ _ FW.refl) rfl rfl h_g2 (fun x3 g4 L5 h_g4 => ?_)
    refine kp_ck ?_
    refine kp_stB (by decide) h_g4 (fun g7 h_g7 => ?_)
    refine kp_ck ?_
    refine kp_ltn (fun q8 e_ => ?_)
    refine kp_ck ?_
    refine kp_stB (by decide) h_g7 (fun g9 h_g9 => ?_)
    refine kp_cb (w_fX1_isUpstairs_8 _ _ _ _ _ FW.refl) rfl rfl h_g9 (fun x10 g11 L12 h_g11 => ?_)
    refine kp_ck ?_
    refine kp_stB (by decide) h_g11 (fun g14 h_g14 => ?_)
    refine kp_stF (by decide) h_g14 (fun g15 h_g15 => ?_)
    exact w_fX9_addWay_12_p106 _ _ _ _ h_g15
abbrev wA_fX9_gather_12 : List (Nat × Nat) := [(12, 5)]
abbrev wB_fX9_gather_12 : List Nat := [21, 43, 44, 45, 46, 47, 48, 53, 54, 55, 56]
theorem w_fX9_gather_12_p87 (g0 : gT) (fu : Nat) (k15 : Int32 × gT × lT → Option ((Unit) × zS)) (k44 : Int32 × gT × lT → Option ((Unit) × zS)) (v1 : Int32) (q2_ : Nat) (v3 : Int32) (g : gT) (L : lT) (hk15 : ∀ v : Int32 × gT × lT, FW wA_fX9_gather_12 wB_fX9_gather_12 g0 (v.2.1) → Kp wA_fX9_gather_12 wB_fX9_gather_12 g0 (k15 v)) (hk44 : ∀ v : Int32 × gT × lT, FW wA_fX9_gather_12 wB_fX9_gather_12 g0 (v.2.1) → Kp wA_fX9_gather_12 wB_fX9_gather_12 g0 (k44 v)) (h_g : FW wA_fX9_gather_12 wB_fX9_gather_12 g0 g) : Kp wA_fX9_gather_12 wB_fX9_gather_12 g0 (fX9_gather_12_p87 fu k15 k44 v1 q2_ v3 g L) := by
  unfold fX9_gather_12_p87
  exact hk44 _ h_g
theorem w_fX9_gather_12_s44 (g0 : gT) (fu : Nat) (k15 : Int32 × gT × lT → Option ((Unit) × zS)) (v1 : Int32) (q2_ : Nat) (k44 : Int32 × gT × lT → Option ((Unit) × zS)) (v3 : Int32) (g : gT) (L : lT) (hk15 : ∀ v : Int32 × gT × lT, FW wA_fX9_gather_12 wB_fX9_gather_12 g0 (v.2.1) → Kp wA_fX9_gather_12 wB_fX9_gather_12 g0 (k15 v)) (hk44 : ∀ v : Int32 × gT × lT, FW wA_fX9_gather_12 wB_fX9_gather_12 g0 (v.2.1) → Kp wA_fX9_gather_12 wB_fX9_gather_12 g0 (k44 v)) (h_g : FW wA_fX9_gather_12 wB_fX9_gather_12 g0 g) : Kp wA_fX9_gather_12 wB_fX9_gather_12 g0 (fX9_gather_12_s44 fu k15 v1 q2_ k44 v3 g L) := by
  unfold fX9_gather_12_s44
  refine kp_ite ?_ ?_
  ·
    exact hk15 _ h_g
  ·
    refine kp_ck ?_
    refine kp_lti (fun x9 => ?_)
    refine kp_cb (w_fX1_isUpstairs_8 _ _ _ _ _ FW.refl) rfl rfl h_g (fun x10 g11 L12 h_g11 => ?_)
    refine kp_cb (w_fX1_isUpstairs_8 _ _ _ _ _ FW.refl) rfl rfl h_g11 (fun x14 g15 L16 h_g15 => ?_)
    refine kp_ite ?_ ?_
    ·
      exact w_fX9_gather_12_p87 _ _ _ _ _ _ _ _ _ hk15 hk44 h_g15
    ·
      refine kp_cb (w_fX9_addWay_12 _ _ _ _ _ _ FW.refl) rfl rfl h_g15 (fun x19 g20 L21 h_g20 => ?_)
      exact w_fX9_gather_12_p87 _ _ _ _ _ _ _ _ _ hk15 hk44 h_g20
theorem w_fX9_gather_12_l44 (g0 : gT) (fu : Nat) (k15 : Int32 × gT × lT → Option ((Unit) × zS)) (v1 : Int32) (q2_ : Nat) (v3 : Int32) (g : gT) (L : lT) (hk15 : ∀ v : Int32 × gT × lT, FW wA_fX9_gather_12 wB_fX9_gather_12 g0 (v.2.1) → Kp wA_fX9_gather_12 wB_fX9_gather_12 g0 (k15 v)) (h_g : FW wA_fX9_gather_12 wB_fX9_gather_12 g0 g) : Kp wA_fX9_gather_12 wB_fX9_gather_12 g0 (fX9_gather_12_l44 fu k15 v1 q2_ v3 g L) := by
  unfold fX9_gather_12_l44
  exact kp_loop (fun v => v.2.1) (fun k_ hk_ v hv_ => w_fX9_gather_12_s44 _ _ _ _ _ _ _ _ _ hk15 hk_ hv_) h_g
theorem w_fX9_gather_12_s15 (g0 : gT) (fu : Nat) (k15 : Int32 × gT × lT → Option ((Unit) × zS)) (v1 : Int32) (g : gT) (L : lT) (hk15 : ∀ v : Int32 × gT × lT, FW wA_fX9_gather_12 wB_fX9_gather_12 g0 (v.2.1) → Kp wA_fX9_gather_12 wB_fX9_gather_12 g0 (k15 v)) (h_g : FW wA_fX9_gather_12 wB_fX9_gather_12 g0 g) : Kp wA_fX9_gather_12 wB_fX9_gather_12 g0 (fX9_gather_12_s15 fu k15 v1 g L) := by
  unfold fX9_gather_12_s15
  refine kp_ite ?_ ?_
  ·
    exact kp_some h_g
  ·
    refine kp_ck ?_
    refine kp_ltn (fun q7 e_ => ?_)
    exact w_fX9_gather_12_l44 _ _ _ _ _ _ _ _ hk15 h_g
theorem w_fX9_gather_12_l15 (g0 : gT) (fu : Nat) (v1 : Int32) (g : gT) (L : lT) (h_g : FW wA_fX9_gather_12 wB_fX9_gather_12 g0 g) : Kp wA_fX9_gather_12 wB_fX9_gather_12 g0 (fX9_gather_12_l15 fu v1 g L) := by
  unfold fX9_gather_12_l15
  exact kp_loop (fun v => v.2.1) (fun k_ hk_ v hv_ => w_fX9_gather_12_s15 _ _ _ _ _ _ hk_ hv_) h_g
theorem w_fX9_gather_12 (g0 : gT) (fu : Nat) (g : gT) (L : lT) (h_g : FW wA_fX9_gather_12 wB_fX9_gather_12 g0 g) : Kp wA_fX9_gather_12 wB_fX9_gather_12 g0 (fX9_gather_12 fu g L) := by
  unfold fX9_gather_12
  refine kp_cb (w_fX1_runFrom_8 _ _ _ _ _ FW.refl) rfl rfl h_g (fun x1 g2 L3 h_g2 => ?_)
  refine kp_stF (by decide) h_g2 (fun g5 h_g5 => ?_)
  exact w_fX9_gather_12_l15 _ _ _ _ _ h_g5
abbrev wA_fX9_crossings_12 : List (Nat × Nat) := []
abbrev wB_fX9_crossings_12 : List Nat := []
theorem w_fX9_crossings_12_p90 (g0 : gT) (fu : Nat) (k4 : Int32 × Int32 × gT × lT → Option ((Int32) × zS)) (k16 : Int32 × Int32 × gT × lT → Option ((Int32) × zS)) (v2 : Int32) (v3 : Int32) (t0 : Int32) (t1 : Int32) (g : gT) (L : lT) (hk4 : ∀ v : Int32 × Int32 × gT × lT, FW wA_fX9_crossings_12 wB_fX9_crossings_12 g0 (v.2.2.1) → Kp wA_fX9_crossings_12 wB_fX9_crossings_12 g0 (k4 v)) (hk16 : ∀ v : Int32 × Int32 × gT × lT, FW wA_fX9_crossings_12 wB_fX9_crossings_12 g0 (v.2.2.1) → Kp wA_fX9_crossings_12 wB_fX9_crossings_12 g0 (k16 v)) (h_g : FW wA_fX9_crossings_12 wB_fX9_crossings_12 g0 g) : Kp wA_fX9_crossings_12 wB_fX9_crossings_12 g0 (fX9_crossings_12_p90 fu k4 k16 v2 v3 t0 t1 g L) := by
  unfold fX9_crossings_12_p90
  refine kp_lti (fun x4 => ?_)
  exact hk16 _ h_g
theorem w_fX9_crossings_12_p89 (g0 : gT) (fu : Nat) (k4 : Int32 × Int32 × gT × lT → Option ((Int32) × zS)) (k16 : Int32 × Int32 × gT × lT → Option ((Int32) × zS)) (v2 : Int32) (v3 : Int32) (t0 : Int32) (g : gT) (L : lT) (hk4 : ∀ v : Int32 × Int32 × gT × lT, FW wA_fX9_crossings_12 wB_fX9_crossings_12 g0 (v.2.2.1) → Kp wA_fX9_crossings_12 wB_fX9_crossings_12 g0 (k4 v)) (hk16 : ∀ v : Int32 × Int32 × gT × lT, FW wA_fX9_crossings_12 wB_fX9_crossings_12 g0 (v.2.2.1) → Kp wA_fX9_crossings_12 wB_fX9_crossings_12 g0 (k16 v)) (h_g : FW wA_fX9_crossings_12 wB_fX9_crossings_12 g0 g) : Kp wA_fX9_crossings_12 wB_fX9_crossings_12 g0 (fX9_crossings_12_p89 fu k4 k16 v2 v3 t0 g L) := by
  unfold fX9_crossings_12_p89
  exact w_fX9_crossings_12_p90 _ _ _ _ _ _ _ _ _ _ hk4 hk16 h_g
theorem w_fX9_crossings_12_p62 (g0 : gT) (fu : Nat) (k4 : Int32 × Int32 × gT × lT → Option ((Int32) × zS)) (k16 : Int32 × Int32 × gT × lT → Option ((Int32) × zS)) (v1 : Int32) (v2 : Int32) (v3 : Int32) (t0 : Int32) (g : gT) (L : lT) (hk4 : ∀ v : Int32 × Int32 × gT × lT, FW wA_fX9_crossings_12 wB_fX9_crossings_12 g0 (v.2.2.1) → Kp wA_fX9_crossings_12 wB_fX9_crossings_12 g0 (k4 v)) (hk16 : ∀ v : Int32 × Int32 × gT × lT, FW wA_fX9_crossings_12 wB_fX9_crossings_12 g0 (v.2.2.1) → Kp wA_fX9_crossings_12 wB_fX9_crossings_12 g0 (k16 v)) (h_g : FW wA_fX9_crossings_12 wB_fX9_crossings_12 g0 g) : Kp wA_fX9_crossings_12 wB_fX9_crossings_12 g0 (fX9_crossings_12_p62 fu k4 k16 v1 v2 v3 t0 g L) := by
  unfold fX9_crossings_12_p62
  refine kp_ite ?_ ?_
  ·
    exact w_fX9_crossings_12_p89 _ _ _ _ _ _ _ _ _ hk4 hk16 h_g
  ·
    refine kp_ck ?_
    refine kp_ck ?_
    refine kp_ite ?_ ?_
    ·
      exact w_fX9_crossings_12_p89 _ _ _ _ _ _ _ _ _ hk4 hk16 h_g
    ·
      exact w_fX9_crossings_12_p90 _ _ _ _ _ _ _ _ _ _ hk4 hk16 h_g
theorem w_fX9_crossings_12_s16 (g0 : gT) (fu : Nat) (k4 : Int32 × Int32 × gT × lT → Option ((Int32) × zS)) (v2 : Int32) (k16 : Int32 × Int32 × gT × lT → Option ((Int32) × zS)) (v1 : Int32) (v3 : Int32) (g : gT) (L : lT) (hk4 : ∀ v : Int32 × Int32 × gT × lT, FW wA_fX9_crossings_12 wB_fX9_crossings_12 g0 (v.2.2.1) → Kp wA_fX9_crossings_12 wB_fX9_crossings_12 g0 (k4 v)) (hk16 : ∀ v : Int32 × Int32 × gT × lT, FW wA_fX9_crossings_12 wB_fX9_crossings_12 g0 (v.2.2.1) → Kp wA_fX9_crossings_12 wB_fX9_crossings_12 g0 (k16 v)) (h_g : FW wA_fX9_crossings_12 wB_fX9_crossings_12 g0 g) : Kp wA_fX9_crossings_12 wB_fX9_crossings_12 g0 (fX9_crossings_12_s16 fu k4 v2 k16 v1 v3 g L) := by
  unfold fX9_crossings_12_s16
  refine kp_ite ?_ ?_
  ·
    exact hk4 _ h_g
  ·
    refine kp_ck ?_
    refine kp_ck ?_
    refine kp_ck ?_
    refine kp_ck ?_
    refine kp_ite ?_ ?_
    ·
      exact w_fX9_crossings_12_p62 _ _ _ _ _ _ _ _ _ _ hk4 hk16 h_g
    ·
      exact w_fX9_crossings_12_p62 _ _ _ _ _ _ _ _ _ _ hk4 hk16 h_g
theorem w_fX9_crossings_12_l16 (g0 : gT) (fu : Nat) (k4 : Int32 × Int32 × gT × lT → Option ((Int32) × zS)) (v2 : Int32) (v1 : Int32) (v3 : Int32) (g : gT) (L : lT) (hk4 : ∀ v : Int32 × Int32 × gT × lT, FW wA_fX9_crossings_12 wB_fX9_crossings_12 g0 (v.2.2.1) → Kp wA_fX9_crossings_12 wB_fX9_crossings_12 g0 (k4 v)) (h_g : FW wA_fX9_crossings_12 wB_fX9_crossings_12 g0 g) : Kp wA_fX9_crossings_12 wB_fX9_crossings_12 g0 (fX9_crossings_12_l16 fu k4 v2 v1 v3 g L) := by
  unfold fX9_crossings_12_l16
  exact kp_loop (fun v => v.2.2.1) (fun k_ hk_ v hv_ => w_fX9_crossings_12_s16 _ _ _ _ _ _ _ _ _ hk4 hk_ hv_) h_g
theorem w_fX9_crossings_12_s4 (g0 : gT) (fu : Nat) (k4 : Int32 × Int32 × gT × lT → Option ((Int32) × zS)) (v1 : Int32) (v2 : Int32) (g : gT) (L : lT) (hk4 : ∀ v : Int32 × Int32 × gT × lT, FW wA_fX9_crossings_12 wB_fX9_crossings_12 g0 (v.2.2.1) → Kp wA_fX9_crossings_12 wB_fX9_crossings_12 g0 (k4 v)) (h_g : FW wA_fX9_crossings_12 wB_fX9_crossings_12 g0 g) : Kp wA_fX9_crossings_12 wB_fX9_crossings_12 g0 (fX9_crossings_12_s4 fu k4 v1 v2 g L) := by
  unfold fX9_crossings_12_s4
  refine kp_ite ?_ ?_
  ·
    exact kp_some h_g
  ·
    refine kp_lti (fun x2 => ?_)
    exact w_fX9_crossings_12_l16 _ _ _ _ _ _ _ _ hk4 h_g
theorem w_fX9_crossings_12_l4 (g0 : gT) (fu : Nat) (v1 : Int32) (v2 : Int32) (g : gT) (L : lT) (h_g : FW wA_fX9_crossings_12 wB_fX9_crossings_12 g0 g) : Kp wA_fX9_crossings_12 wB_fX9_crossings_12 g0 (fX9_crossings_12_l4 fu v1 v2 g L) := by
  unfold fX9_crossings_12_l4
  exact kp_loop (fun v => v.2.2.1) (fun k_ hk_ v hv_ => w_fX9_crossings_12_s4 _ _ _ _ _ _ _ hk_ hv_) h_g
theorem w_fX9_crossings_12 (g0 : gT) (fu : Nat) (g : gT) (L : lT) (h_g : FW wA_fX9_crossings_12 wB_fX9_crossings_12 g0 g) : Kp wA_fX9_crossings_12 wB_fX9_crossings_12 g0 (fX9_crossings_12 fu g L) := by
  unfold fX9_crossings_12
  exact w_fX9_crossings_12_l4 _ _ _ _ _ _ h_g
abbrev wA_fX9_peopleIn_12 : List (Nat × Nat) := []
abbrev wB_fX9_peopleIn_12 : List Nat := []
theorem w_fX9_peopleIn_12_p43 (g0 : gT) (fu : Nat) (k4 : Int32 × Int32 × gT × lT → Option ((Int32) × zS)) (v1 : Int32) (v3 : Int32) (t0 : Int32) (t1 : Int32) (g : gT) (L : lT) (hk4 : ∀ v : Int32 × Int32 × gT × lT, FW wA_fX9_peopleIn_12 wB_fX9_peopleIn_12 g0 (v.2.2.1) → Kp wA_fX9_peopleIn_12 wB_fX9_peopleIn_12 g0 (k4 v)) (h_g : FW wA_fX9_peopleIn_12 wB_fX9_peopleIn_12 g0 g) : Kp wA_fX9_peopleIn_12 wB_fX9_peopleIn_12 g0 (fX9_peopleIn_12_p43 fu k4 v1 v3 t0 t1 g L) := by
  unfold fX9_peopleIn_12_p43
  refine kp_lti (fun x2 => ?_)
  exact hk4 _ h_g
theorem w_fX9_peopleIn_12_p42 (g0 : gT) (fu : Nat) (k4 : Int32 × Int32 × gT × lT → Option ((Int32) × zS)) (v1 : Int32) (v3 : Int32) (t0 : Int32) (g : gT) (L : lT) (hk4 : ∀ v : Int32 × Int32 × gT × lT, FW wA_fX9_peopleIn_12 wB_fX9_peopleIn_12 g0 (v.2.2.1) → Kp wA_fX9_peopleIn_12 wB_fX9_peopleIn_12 g0 (k4 v)) (h_g : FW wA_fX9_peopleIn_12 wB_fX9_peopleIn_12 g0 g) : Kp wA_fX9_peopleIn_12 wB_fX9_peopleIn_12 g0 (fX9_peopleIn_12_p42 fu k4 v1 v3 t0 g L) := by
  unfold fX9_peopleIn_12_p42
  exact w_fX9_peopleIn_12_p43 _ _ _ _ _ _ _ _ _ hk4 h_g
theorem w_fX9_peopleIn_12_s4 (g0 : gT) (fu : Nat) (v1 : Int32) (k4 : Int32 × Int32 × gT × lT → Option ((Int32) × zS)) (v2 : Int32) (v3 : Int32) (g : gT) (L : lT) (hk4 : ∀ v : Int32 × Int32 × gT × lT, FW wA_fX9_peopleIn_12 wB_fX9_peopleIn_12 g0 (v.2.2.1) → Kp wA_fX9_peopleIn_12 wB_fX9_peopleIn_12 g0 (k4 v)) (h_g : FW wA_fX9_peopleIn_12 wB_fX9_peopleIn_12 g0 g) : Kp wA_fX9_peopleIn_12 wB_fX9_peopleIn_12 g0 (fX9_peopleIn_12_s4 fu v1 k4 v2 v3 g L) := by
  unfold fX9_peopleIn_12_s4
  refine kp_ite ?_ ?_
  ·
    exact kp_some h_g
  ·
    refine kp_ck ?_
    refine kp_ite ?_ ?_
    ·
      exact w_fX9_peopleIn_12_p42 _ _ _ _ _ _ _ _ hk4 h_g
    ·
      refine kp_ck ?_
      refine kp_ite ?_ ?_
      ·
        exact w_fX9_peopleIn_12_p42 _ _ _ _ _ _ _ _ hk4 h_g
      ·
        refine kp_ck ?_
        exact w_fX9_peopleIn_12_p43 _ _ _ _ _ _ _ _ _ hk4 h_g
theorem w_fX9_peopleIn_12_l4 (g0 : gT) (fu : Nat) (v1 : Int32) (v2 : Int32) (v3 : Int32) (g : gT) (L : lT) (h_g : FW wA_fX9_peopleIn_12 wB_fX9_peopleIn_12 g0 g) : Kp wA_fX9_peopleIn_12 wB_fX9_peopleIn_12 g0 (fX9_peopleIn_12_l4 fu v1 v2 v3 g L) := by
  unfold fX9_peopleIn_12_l4
  exact kp_loop (fun v => v.2.2.1) (fun k_ hk_ v hv_ => w_fX9_peopleIn_12_s4 _ _ _ _ _ _ _ _ hk_ hv_) h_g
theorem w_fX9_peopleIn_12 (g0 : gT) (fu : Nat) (p1 : Int32) (g : gT) (L : lT) (h_g : FW wA_fX9_peopleIn_12 wB_fX9_peopleIn_12 g0 g) : Kp wA_fX9_peopleIn_12 wB_fX9_peopleIn_12 g0 (fX9_peopleIn_12 fu p1 g L) := by
  unfold fX9_peopleIn_12
  exact w_fX9_peopleIn_12_l4 _ _ _ _ _ _ _ h_g
abbrev wA_fX9_busiestMinute_12 : List (Nat × Nat) := []
abbrev wB_fX9_busiestMinute_12 : List Nat := []
theorem w_fX9_busiestMinute_12_p58 (g0 : gT) (fu : Nat) (k6 : Int32 × Int32 × Int32 × gT × lT → Option ((Int32) × zS)) (v1 : Int32) (v2 : Int32) (v3 : Int32) (g : gT) (L : lT) (hk6 : ∀ v : Int32 × Int32 × Int32 × gT × lT, FW wA_fX9_busiestMinute_12 wB_fX9_busiestMinute_12 g0 (v.2.2.2.1) → Kp wA_fX9_busiestMinute_12 wB_fX9_busiestMinute_12 g0 (k6 v)) (h_g : FW wA_fX9_busiestMinute_12 wB_fX9_busiestMinute_12 g0 g) : Kp wA_fX9_busiestMinute_12 wB_fX9_busiestMinute_12 g0 (fX9_busiestMinute_12_p58 fu k6 v1 v2 v3 g L) := by
  unfold fX9_busiestMinute_12_p58
  exact hk6 _ h_g
theorem w_fX9_busiestMinute_12_p48 (g0 : gT) (fu : Nat) (k6 : Int32 × Int32 × Int32 × gT × lT → Option ((Int32) × zS)) (v3 : Int32) (v4 : Int32) (g : gT) (L : lT) (hk6 : ∀ v : Int32 × Int32 × Int32 × gT × lT, FW wA_fX9_busiestMinute_12 wB_fX9_busiestMinute_12 g0 (v.2.2.2.1) → Kp wA_fX9_busiestMinute_12 wB_fX9_busiestMinute_12 g0 (k6 v)) (h_g : FW wA_fX9_busiestMinute_12 wB_fX9_busiestMinute_12 g0 g) : Kp wA_fX9_busiestMinute_12 wB_fX9_busiestMinute_12 g0 (fX9_busiestMinute_12_p48 fu k6 v3 v4 g L) := by
  unfold fX9_busiestMinute_12_p48
  refine kp_ck ?_
  refine kp_lti (fun x6 => ?_)
  exact w_fX9_busiestMinute_12_p58 _ _ _ _ _ _ _ _ hk6 h_g
theorem w_fX9_busiestMinute_12_s6 (g0 : gT) (fu : Nat) (k6 : Int32 × Int32 × Int32 × gT × lT → Option ((Int32) × zS)) (v1 : Int32) (v2 : Int32) (v3 : Int32) (g : gT) (L : lT) (hk6 : ∀ v : Int32 × Int32 × Int32 × gT × lT, FW wA_fX9_busiestMinute_12 wB_fX9_busiestMinute_12 g0 (v.2.2.2.1) → Kp wA_fX9_busiestMinute_12 wB_fX9_busiestMinute_12 g0 (k6 v)) (h_g : FW wA_fX9_busiestMinute_12 wB_fX9_busiestMinute_12 g0 g) : Kp wA_fX9_busiestMinute_12 wB_fX9_busiestMinute_12 g0 (fX9_busiestMinute_12_s6 fu k6 v1 v2 v3 g L) := by
  unfold fX9_busiestMinute_12_s6
  refine kp_ite ?_ ?_
  ·
    exact kp_some h_g
  ·
    refine kp_ck ?_
    refine kp_cb (w_fX9_peopleIn_12 _ _ _ _ _ FW.refl) rfl rfl h_g (fun x2 g3 L4 h_g3 => ?_)
    refine kp_ite ?_ ?_
    ·
      exact w_fX9_busiestMinute_12_p48 _ _ _ _ _ _ _ hk6 h_g3
    ·
      refine kp_ite ?_ ?_
      ·
        refine kp_ck ?_
        refine kp_ite ?_ ?_
        ·
          exact w_fX9_busiestMinute_12_p58 _ _ _ _ _ _ _ _ hk6 h_g3
        ·
          exact w_fX9_busiestMinute_12_p48 _ _ _ _ _ _ _ hk6 h_g3
      ·
        exact w_fX9_busiestMinute_12_p58 _ _ _ _ _ _ _ _ hk6 h_g3
theorem w_fX9_busiestMinute_12_l6 (g0 : gT) (fu : Nat) (v1 : Int32) (v2 : Int32) (v3 : Int32) (g : gT) (L : lT) (h_g : FW wA_fX9_busiestMinute_12 wB_fX9_busiestMinute_12 g0 g) : Kp wA_fX9_busiestMinute_12 wB_fX9_busiestMinute_12 g0 (fX9_busiestMinute_12_l6 fu v1 v2 v3 g L) := by
  unfold fX9_busiestMinute_12_l6
  exact kp_loop (fun v => v.2.2.2.1) (fun k_ hk_ v hv_ => w_fX9_busiestMinute_12_s6 _ _ _ _ _ _ _ _ hk_ hv_) h_g
theorem w_fX9_busiestMinute_12 (g0 : gT) (fu : Nat) (g : gT) (L : lT) (h_g : FW wA_fX9_busiestMinute_12 wB_fX9_busiestMinute_12 g0 g) : Kp wA_fX9_busiestMinute_12 wB_fX9_busiestMinute_12 g0 (fX9_busiestMinute_12 fu g L) := by
  unfold fX9_busiestMinute_12
  exact w_fX9_busiestMinute_12_l6 _ _ _ _ _ _ _ h_g
abbrev wA_fX11_put_0 : List (Nat × Nat) := [(0, 13)]
abbrev wB_fX11_put_0 : List Nat := [14]
theorem w_fX11_put_0_p45 (g0 : gT) (fu : Nat) (k3 : Int32 × gT × lT → Option ((Unit) × zS)) (v1 : Int32) (v2 : Int32) (g : gT) (L : lT) (hk3 : ∀ v : Int32 × gT × lT, FW wA_fX11_put_0 wB_fX11_put_0 g0 (v.2.1) → Kp wA_fX11_put_0 wB_fX11_put_0 g0 (k3 v)) (h_g : FW wA_fX11_put_0 wB_fX11_put_0 g0 g) : Kp wA_fX11_put_0 wB_fX11_put_0 g0 (fX11_put_0_p45 fu k3 v1 v2 g L) := by
  unfold fX11_put_0_p45
  exact hk3 _ h_g
theorem w_fX11_put_0_s3 (g0 : gT) (fu : Nat) (v1 : Int32) (k3 : Int32 × gT × lT → Option ((Unit) × zS)) (v2 : Int32) (g : gT) (L : lT) (hk3 : ∀ v : Int32 × gT × lT, FW wA_fX11_put_0 wB_fX11_put_0 g0 (v.2.1) → Kp wA_fX11_put_0 wB_fX11_put_0 g0 (k3 v)) (h_g : FW wA_fX11_put_0 wB_fX11_put_0 g0 g) : Kp wA_fX11_put_0 wB_fX11_put_0 g0 (fX11_put_0_s3 fu v1 k3 v2 g L) := by
  unfold fX11_put_0_s3
  refine kp_ite ?_ ?_
  ·
    exact kp_some h_g
  ·
    refine kp_ite ?_ ?_
    ·
      exact w_fX11_put_0_p45 _ _ _ _ _ _ _ hk3 h_g
    ·
      refine kp_ck ?_
      refine kp_stB (by decide) h_g (fun g3 h_g3 => ?_)
      refine kp_stF (by decide) h_g3 (fun g4 h_g4 => ?_)
      exact w_fX11_put_0_p45 _ _ _ _ _ _ _ hk3 h_g4
theorem w_fX11_put_0_l3 (g0 : gT) (fu : Nat) (v1 : Int32) (v2 : Int32) (g : gT) (L : lT) (h_g : FW wA_fX11_put_0 wB_fX11_put_0 g0 g) : Kp wA_fX11_put_0 wB_fX11_put_0 g0 (fX11_put_0_l3 fu v1 v2 g L) := by
  unfold fX11_put_0_l3
  exact kp_loop (fun v => v.2.1) (fun k_ hk_ v hv_ => w_fX11_put_0_s3 _ _ _ _ _ _ _ hk_ hv_) h_g
theorem w_fX11_put_0 (g0 : gT) (fu : Nat) (p1 : Int32) (g : gT) (L : lT) (h_g : FW wA_fX11_put_0 wB_fX11_put_0 g0 g) : Kp wA_fX11_put_0 wB_fX11_put_0 g0 (fX11_put_0 fu p1 g L) := by
  unfold fX11_put_0
  exact w_fX11_put_0_l3 _ _ _ _ _ _ h_g
abbrev wA_fX11_feed_0 : List (Nat × Nat) := [(0, 13)]
abbrev wB_fX11_feed_0 : List Nat := [14]
theorem w_fX11_feed_0 (g0 : gT) (fu : Nat) (p1 : Int32) (p2 : Int32) (p3 : Int32) (p4 : Int32) (p5 : Int32) (g : gT) (L : lT) (h_g : FW wA_fX11_feed_0 wB_fX11_feed_0 g0 g) : Kp wA_fX11_feed_0 wB_fX11_feed_0 g0 (fX11_feed_0 fu p1 p2 p3 p4 p5 g L) := by
  unfold fX11_feed_0
  refine kp_ite ?_ ?_
  ·
    refine kp_cb (w_fX11_put_0 _ _ _ _ _ FW.refl) rfl rfl h_g (fun x2 g3 L4 h_g3 => ?_)
    refine kp_cb (w_fX11_put_0 _ _ _ _ _ FW.refl) rfl rfl h_g3 (fun x6 g7 L8 h_g7 => ?_)
    refine kp_cb (w_fX11_put_0 _ _ _ _ _ FW.refl) rfl rfl h_g7 (fun x10 g11 L12 h_g11 => ?_)
    refine kp_cb (w_fX11_put_0 _ _ _ _ _ FW.refl) rfl rfl h_g11 (fun x14 g15 L16 h_g15 => ?_)
    refine kp_cb (w_fX11_put_0 _ _ _ _ _ FW.refl) rfl rfl h_g15 (fun x18 g19 L20 h_g19 => ?_)
    exact kp_some h_g19
  ·
    exact kp_some h_g
abbrev wA_fX11_fault_0 : List (Nat × Nat) := []
abbrev wB_fX11_fault_0 : List Nat := []
theorem w_fX11_fault_0 (g0 : gT) (fu : Nat) (g : gT) (L : lT) (h_g : FW wA_fX11_fault_0 wB_fX11_fault_0 g0 g) : Kp wA_fX11_fault_0 wB_fX11_fault_0 g0 (fX11_fault_0 fu g L) := by
  unfold fX11_fault_0
  exact kp_some h_g
abbrev wA_fX11_needWhat : List (Nat × Nat) := []
abbrev wB_fX11_needWhat : List Nat := []
theorem w_fX11_needWhat_p9 (g0 : gT) (fu : Nat) (g : gT) (L : lT) (h_g : FW wA_fX11_needWhat wB_fX11_needWhat g0 g) : Kp wA_fX11_needWhat wB_fX11_needWhat g0 (fX11_needWhat_p9 fu g L) := by
  unfold fX11_needWhat_p9
  exact kp_some h_g
theorem w_fX11_needWhat (g0 : gT) (fu : Nat) (p1 : Int32) (p2 : Int32) (g : gT) (L : lT) (h_g : FW wA_fX11_needWhat wB_fX11_needWhat g0 g) : Kp wA_fX11_needWhat wB_fX11_needWhat g0 (fX11_needWhat fu p1 p2 g L) := by
  unfold fX11_needWhat
  refine kp_ite ?_ ?_
  ·
    exact w_fX11_needWhat_p9 _ _ _ _ h_g
  ·
    refine kp_ite ?_ ?_
    ·
      exact kp_some h_g
    ·
      exact w_fX11_needWhat_p9 _ _ _ _ h_g
abbrev wA_fX11_countOfDay_0 : List (Nat × Nat) := []
abbrev wB_fX11_countOfDay_0 : List Nat := [21, 43, 44, 45, 46, 47, 48]
theorem w_fX11_countOfDay_0 (g0 : gT) (fu : Nat) (p1 : Int32) (g : gT) (L : lT) (h_g : FW wA_fX11_countOfDay_0 wB_fX11_countOfDay_0 g0 g) : Kp wA_fX11_countOfDay_0 wB_fX11_countOfDay_0 g0 (fX11_countOfDay_0 fu p1 g L) := by
  unfold fX11_countOfDay_0
  refine kp_cb (w_fX1_runFrom_8 _ _ _ _ _ FW.refl) rfl rfl h_g (fun x1 g2 L3 h_g2 => ?_)
  refine kp_ite ?_ ?_
  ·
    refine kp_cb (w_fX1_lost_8 _ _ _ _ FW.refl) rfl rfl h_g2 (fun x6 g7 L8 h_g7 => ?_)
    exact kp_some h_g7
  ·
    refine kp_ite ?_ ?_
    ·
      refine kp_cb (w_fX1_lateOnes_8 _ _ _ _ FW.refl) rfl rfl h_g2 (fun x11 g12 L13 h_g12 => ?_)
      exact kp_some h_g12
    ·
      refine kp_ite ?_ ?_
      ·
        refine kp_cb (w_fX1_latest_8 _ _ _ _ FW.refl) rfl rfl h_g2 (fun x16 g17 L18 h_g17 => ?_)
        exact kp_some h_g17
      ·
        refine kp_cb (w_fX1_begunLater_8 _ _ _ _ FW.refl) rfl rfl h_g2 (fun x20 g21 L22 h_g21 => ?_)
        exact kp_some h_g21
abbrev wA_fX11_count_0 : List (Nat × Nat) := []
abbrev wB_fX11_count_0 : List Nat := [21, 43, 44, 45, 46, 47, 48]
theorem w_fX11_count_0 (g0 : gT) (fu : Nat) (p1 : Int32) (g : gT) (L : lT) (h_g : FW wA_fX11_count_0 wB_fX11_count_0 g0 g) : Kp wA_fX11_count_0 wB_fX11_count_0 g0 (fX11_count_0 fu p1 g L) := by
  unfold fX11_count_0
  refine kp_cbx (w_fX11_needWhat _ _ _ _ _ _ FW.refl) rfl rfl h_g (fun x1 g2 L3 h_g2 => ?_)
  refine kp_ite ?_ ?_
  ·
    exact kp_some h_g2
  ·
    refine kp_ite ?_ ?_
    ·
      exact kp_some h_g2
    ·
      refine kp_ite ?_ ?_
      ·
        exact kp_some h_g2
      ·
        refine kp_ite ?_ ?_
        ·
          exact kp_some h_g2
        ·
          refine kp_ite ?_ ?_
          ·
            exact kp_some h_g2
          ·
            refine kp_ite ?_ ?_
            ·
              exact kp_some h_g2
            ·
              refine kp_ite ?_ ?_
              ·
                exact kp_some h_g2
              ·
                refine kp_ite ?_ ?_
                ·
                  refine kp_cb (w_fX11_countOfDay_0 _ _ _ _ _ FW.refl) rfl rfl h_g2 (fun x13 g14 L15 h_g14 => ?_)
                  exact kp_some h_g14
                ·
                  refine kp_ite ?_ ?_
                  ·
                    exact kp_some h_g2
                  ·
                    refine kp_ite ?_ ?_
                    ·
                      refine kp_ck ?_
                      exact kp_some h_g2
                    ·
                      refine kp_ite ?_ ?_
                      ·
                        refine kp_ck ?_
                        exact kp_some h_g2
                      ·
                        refine kp_ite ?_ ?_
                        ·
                          refine kp_ck ?_
                          exact kp_some h_g2
                        ·
                          refine kp_cb (w_fX11_countOfDay_0 _ _ _ _ _ FW.refl) rfl rfl h_g2 (fun x21 g22 L23 h_g22 => ?_)
                          exact kp_some h_g22
abbrev wA_fX11_needLesson_0 : List (Nat × Nat) := []
abbrev wB_fX11_needLesson_0 : List Nat := []
theorem w_fX11_needLesson_0_p15 (g0 : gT) (fu : Nat) (g : gT) (L : lT) (h_g : FW wA_fX11_needLesson_0 wB_fX11_needLesson_0 g0 g) : Kp wA_fX11_needLesson_0 wB_fX11_needLesson_0 g0 (fX11_needLesson_0_p15 fu g L) := by
  unfold fX11_needLesson_0_p15
  exact kp_some h_g
theorem w_fX11_needLesson_0 (g0 : gT) (fu : Nat) (p1 : Int32) (g : gT) (L : lT) (h_g : FW wA_fX11_needLesson_0 wB_fX11_needLesson_0 g0 g) : Kp wA_fX11_needLesson_0 wB_fX11_needLesson_0 g0 (fX11_needLesson_0 fu p1 g L) := by
  unfold fX11_needLesson_0
  refine kp_ite ?_ ?_
  ·
    exact w_fX11_needLesson_0_p15 _ _ _ _ h_g
  ·
    refine kp_ite ?_ ?_
    ·
      exact kp_some h_g
    ·
      exact w_fX11_needLesson_0_p15 _ _ _ _ h_g
abbrev wA_fX11_lesson_0 : List (Nat × Nat) := []
abbrev wB_fX11_lesson_0 : List Nat := []
theorem w_fX11_lesson_0 (g0 : gT) (fu : Nat) (p1 : Int32) (p2 : Int32) (g : gT) (L : lT) (h_g : FW wA_fX11_lesson_0 wB_fX11_lesson_0 g0 g) : Kp wA_fX11_lesson_0 wB_fX11_lesson_0 g0 (fX11_lesson_0 fu p1 p2 g L) := by
  unfold fX11_lesson_0
  refine kp_cbx (w_fX11_needLesson_0 _ _ _ _ _ FW.refl) rfl rfl h_g (fun x1 g2 L3 h_g2 => ?_)
  refine kp_cbx (w_fX11_needWhat _ _ _ _ _ _ FW.refl) rfl rfl h_g2 (fun x5 g6 L7 h_g6 => ?_)
  refine kp_ck ?_
  refine kp_ltn (fun q9 e_ => ?_)
  refine kp_ite ?_ ?_
  ·
    exact kp_some h_g6
  ·
    refine kp_ite ?_ ?_
    ·
      exact kp_some h_g6
    ·
      refine kp_ite ?_ ?_
      ·
        exact kp_some h_g6
      ·
        refine kp_ite ?_ ?_
        ·
          refine kp_ck ?_
          exact kp_some h_g6
        ·
          refine kp_ite ?_ ?_
          ·
            refine kp_ck ?_
            exact kp_some h_g6
          ·
            refine kp_ite ?_ ?_
            ·
              exact kp_some h_g6
            ·
              refine kp_ite ?_ ?_
              ·
                exact kp_some h_g6
              ·
                refine kp_ite ?_ ?_
                ·
                  exact kp_some h_g6
                ·
                  refine kp_ite ?_ ?_
                  ·
                    exact kp_some h_g6
                  ·
                    refine kp_ite ?_ ?_
                    ·
                      refine kp_ck ?_
                      exact kp_some h_g6
                    ·
                      refine kp_ite ?_ ?_
                      ·
                        exact kp_some h_g6
                      ·
                        refine kp_ck ?_
                        exact kp_some h_g6
abbrev wA_fX11_day_0 : List (Nat × Nat) := []
abbrev wB_fX11_day_0 : List Nat := [21, 43, 44, 45, 46, 47, 48]
theorem w_fX11_day_0 (g0 : gT) (fu : Nat) (p1 : Int32) (p2 : Int32) (g : gT) (L : lT) (h_g : FW wA_fX11_day_0 wB_fX11_day_0 g0 g) : Kp wA_fX11_day_0 wB_fX11_day_0 g0 (fX11_day_0 fu p1 p2 g L) := by
  unfold fX11_day_0
  refine kp_cbx (w_fX11_needLesson_0 _ _ _ _ _ FW.refl) rfl rfl h_g (fun x1 g2 L3 h_g2 => ?_)
  refine kp_cbx (w_fX11_needWhat _ _ _ _ _ _ FW.refl) rfl rfl h_g2 (fun x5 g6 L7 h_g6 => ?_)
  refine kp_cb (w_fX1_runFrom_8 _ _ _ _ _ FW.refl) rfl rfl h_g6 (fun x9 g10 L11 h_g10 => ?_)
  refine kp_ite ?_ ?_
  ·
    refine kp_ck ?_
    exact kp_some h_g10
  ·
    refine kp_ite ?_ ?_
    ·
      refine kp_ck ?_
      exact kp_some h_g10
    ·
      refine kp_ite ?_ ?_
      ·
        refine kp_cb (w_fX1_late_8 _ _ _ _ _ FW.refl) rfl rfl h_g10 (fun x16 g17 L18 h_g17 => ?_)
        exact kp_some h_g17
      ·
        refine kp_ite ?_ ?_
        ·
          refine kp_ck ?_
          exact kp_some h_g10
        ·
          refine kp_ck ?_
          exact kp_some h_g10
abbrev wA_fX11_chain_0 : List (Nat × Nat) := []
abbrev wB_fX11_chain_0 : List Nat := [21, 43, 44, 45, 46, 47, 48]
theorem w_fX11_chain_0_p64 (g0 : gT) (fu : Nat) (v3 : Int32) (g : gT) (L : lT) (h_g : FW wA_fX11_chain_0 wB_fX11_chain_0 g0 g) : Kp wA_fX11_chain_0 wB_fX11_chain_0 g0 (fX11_chain_0_p64 fu v3 g L) := by
  unfold fX11_chain_0_p64
  exact kp_some h_g
theorem w_fX11_chain_0_s30 (g0 : gT) (fu : Nat) (v2 : Int32) (k30 : Int32 × Int32 × gT × lT → Option ((Except String Int32) × zS)) (v3 : Int32) (v4 : Int32) (g : gT) (L : lT) (hk30 : ∀ v : Int32 × Int32 × gT × lT, FW wA_fX11_chain_0 wB_fX11_chain_0 g0 (v.2.2.1) → Kp wA_fX11_chain_0 wB_fX11_chain_0 g0 (k30 v)) (h_g : FW wA_fX11_chain_0 wB_fX11_chain_0 g0 g) : Kp wA_fX11_chain_0 wB_fX11_chain_0 g0 (fX11_chain_0_s30 fu v2 k30 v3 v4 g L) := by
  unfold fX11_chain_0_s30
  refine kp_ite ?_ ?_
  ·
    exact w_fX11_chain_0_p64 _ _ _ _ _ h_g
  ·
    refine kp_ite ?_ ?_
    ·
      exact w_fX11_chain_0_p64 _ _ _ _ _ h_g
    ·
      refine kp_ite ?_ ?_
      ·
        exact w_fX11_chain_0_p64 _ _ _ _ _ h_g
      ·
        refine kp_ck ?_
        refine kp_lti (fun x13 => ?_)
        exact hk30 _ h_g
theorem w_fX11_chain_0_l30 (g0 : gT) (fu : Nat) (v2 : Int32) (v3 : Int32) (v4 : Int32) (g : gT) (L : lT) (h_g : FW wA_fX11_chain_0 wB_fX11_chain_0 g0 g) : Kp wA_fX11_chain_0 wB_fX11_chain_0 g0 (fX11_chain_0_l30 fu v2 v3 v4 g L) := by
  unfold fX11_chain_0_l30
  exact kp_loop (fun v => v.2.2.1) (fun k_ hk_ v hv_ => w_fX11_chain_0_s30 _ _ _ _ _ _ _ _ hk_ hv_) h_g
theorem w_fX11_chain_0 (g0 : gT) (fu : Nat) (p1 : Int32) (p2 : Int32) (g : gT) (L : lT) (h_g : FW wA_fX11_chain_0 wB_fX11_chain_0 g0 g) : Kp wA_fX11_chain_0 wB_fX11_chain_0 g0 (fX11_chain_0 fu p1 p2 g L) := by
  unfold fX11_chain_0
  refine kp_cbx (w_fX11_needLesson_0 _ _ _ _ _ FW.refl) rfl rfl h_g (fun x1 g2 L3 h_g2 => ?_)
  refine kp_ite ?_ ?_
  ·
    refine kp_cb (w_fX1_runFrom_8 _ _ _ _ _ FW.refl) rfl rfl h_g2 (fun x6 g7 L8 h_g7 => ?_)
    exact w_fX11_chain_0_l30 _ _ _ _ _ _ _ h_g7
  ·
    exact kp_some h_g2
abbrev wA_fX11_become_0 : List (Nat × Nat) := [(6, 9)]
abbrev wB_fX11_become_0 : List Nat := [15, 25, 26, 27, 28, 29, 30, 31]
theorem w_fX11_become_0_p22 (g0 : gT) (fu : Nat) (g : gT) (L : lT) (h_g : FW wA_fX11_become_0 wB_fX11_become_0 g0 g) : Kp wA_fX11_become_0 wB_fX11_become_0 g0 (fX11_become_0_p22 fu g L) := by
  unfold fX11_become_0_p22
  refine kp_ck ?_
  refine kp_ck ?_
  refine kp_stB (by decide) h_g (fun g9 h_g9 => ?_)
  exact kp_some h_g9
theorem w_fX11_become_0 (g0 : gT) (fu : Nat) (p1 : Int32) (p2 : Int32) (p3 : Int32) (g : gT) (L : lT) (h_g : FW wA_fX11_become_0 wB_fX11_become_0 g0 g) : Kp wA_fX11_become_0 wB_fX11_become_0 g0 (fX11_become_0 fu p1 p2 p3 g L) := by
  unfold fX11_become_0
  refine kp_cbx (w_fX11_needLesson_0 _ _ _ _ _ FW.refl) rfl rfl h_g (fun x1 g2 L3 h_g2 => ?_)
  refine kp_cbx (w_fX11_needWhat _ _ _ _ _ _ FW.refl) rfl rfl h_g2 (fun x5 g6 L7 h_g6 => ?_)
  refine kp_ite ?_ ?_
  ·
    exact w_fX11_become_0_p22 _ _ _ _ h_g6
  ·
    refine kp_cb (w_fX11_mostOf _ _ _ _ _ FW.refl) rfl rfl h_g6 (fun x11 g12 L13 h_g12 => ?_)
    refine kp_ite ?_ ?_
    ·
      refine kp_cb (w_fX3_value_6 _ _ _ _ _ _ FW.refl) rfl rfl h_g12 (fun x16 g17 L18 h_g17 => ?_)
      refine kp_cb (w_fX3_keepAct_6 _ _ _ _ _ _ _ FW.refl) rfl rfl h_g17 (fun x20 g21 L22 h_g21 => ?_)
      refine kp_cb (w_fX3_put_6 _ _ _ _ _ _ _ FW.refl) rfl rfl h_g21 (fun x24 g25 L26 h_g25 => ?_)
      exact kp_some h_g25
    ·
      exact w_fX11_become_0_p22 _ _ _ _ h_g12
abbrev wA_fX11_isRuleOrNone_0 : List (Nat × Nat) := []
abbrev wB_fX11_isRuleOrNone_0 : List Nat := []
theorem w_fX11_isRuleOrNone_0_p24 (g0 : gT) (fu : Nat) (t0 : Int32) (g : gT) (L : lT) (h_g : FW wA_fX11_isRuleOrNone_0 wB_fX11_isRuleOrNone_0 g0 g) : Kp wA_fX11_isRuleOrNone_0 wB_fX11_isRuleOrNone_0 g0 (fX11_isRuleOrNone_0_p24 fu t0 g L) := by
  unfold fX11_isRuleOrNone_0_p24
  refine kp_ckb ?_
  exact kp_some h_g
theorem w_fX11_isRuleOrNone_0_p23 (g0 : gT) (fu : Nat) (g : gT) (L : lT) (h_g : FW wA_fX11_isRuleOrNone_0 wB_fX11_isRuleOrNone_0 g0 g) : Kp wA_fX11_isRuleOrNone_0 wB_fX11_isRuleOrNone_0 g0 (fX11_isRuleOrNone_0_p23 fu g L) := by
  unfold fX11_isRuleOrNone_0_p23
  exact w_fX11_isRuleOrNone_0_p24 _ _ _ _ _ h_g
theorem w_fX11_isRuleOrNone_0 (g0 : gT) (fu : Nat) (p1 : Int32) (g : gT) (L : lT) (h_g : FW wA_fX11_isRuleOrNone_0 wB_fX11_isRuleOrNone_0 g0 g) : Kp wA_fX11_isRuleOrNone_0 wB_fX11_isRuleOrNone_0 g0 (fX11_isRuleOrNone_0 fu p1 g L) := by
  unfold fX11_isRuleOrNone_0
  refine kp_ite ?_ ?_
  ·
    exact w_fX11_isRuleOrNone_0_p23 _ _ _ _ h_g
  ·
    refine kp_ite ?_ ?_
    ·
      exact w_fX11_isRuleOrNone_0_p23 _ _ _ _ h_g
    ·
      exact w_fX11_isRuleOrNone_0_p24 _ _ _ _ _ h_g
abbrev wA_fX11_obey_0 : List (Nat × Nat) := [(6, 9), (6, 11)]
abbrev wB_fX11_obey_0 : List Nat := [15, 29, 30, 31]
theorem w_fX11_obey_0 (g0 : gT) (fu : Nat) (p1 : Int32) (g : gT) (L : lT) (h_g : FW wA_fX11_obey_0 wB_fX11_obey_0 g0 g) : Kp wA_fX11_obey_0 wB_fX11_obey_0 g0 (fX11_obey_0 fu p1 g L) := by
  unfold fX11_obey_0
  refine kp_cb (w_fX11_isRuleOrNone_0 _ _ _ _ _ FW.refl) rfl rfl h_g (fun x1 g2 L3 h_g2 => ?_)
  refine kp_ite ?_ ?_
  ·
    refine kp_ck ?_
    refine kp_ck ?_
    refine kp_stB (by decide) h_g2 (fun g11 h_g11 => ?_)
    refine kp_ckb ?_
    exact kp_some h_g11
  ·
    refine kp_cb (w_fX3_keepAct_6 _ _ _ _ _ _ _ FW.refl) rfl rfl h_g2 (fun x6 g7 L8 h_g7 => ?_)
    refine kp_stF (by decide) h_g7 (fun g10 h_g10 => ?_)
    refine kp_ckb ?_
    exact kp_some h_g10
abbrev wA_fX11_undo_0 : List (Nat × Nat) := [(6, 9), (6, 11)]
abbrev wB_fX11_undo_0 : List Nat := [25, 26, 27, 28]
theorem w_fX11_undo_0 (g0 : gT) (fu : Nat) (g : gT) (L : lT) (h_g : FW wA_fX11_undo_0 wB_fX11_undo_0 g0 g) : Kp wA_fX11_undo_0 wB_fX11_undo_0 g0 (fX11_undo_0 fu g L) := by
  unfold fX11_undo_0
  refine kp_cb (w_fX3_takeBackAct_6 _ _ _ _ FW.refl) rfl rfl h_g (fun x1 g2 L3 h_g2 => ?_)
  exact kp_some h_g2
abbrev wA_fX11_needWithin : List (Nat × Nat) := []
abbrev wB_fX11_needWithin : List Nat := []
theorem w_fX11_needWithin_p10 (g0 : gT) (fu : Nat) (g : gT) (L : lT) (h_g : FW wA_fX11_needWithin wB_fX11_needWithin g0 g) : Kp wA_fX11_needWithin wB_fX11_needWithin g0 (fX11_needWithin_p10 fu g L) := by
  unfold fX11_needWithin_p10
  exact kp_some h_g
theorem w_fX11_needWithin (g0 : gT) (fu : Nat) (p1 : Int32) (p2 : Int32) (p3 : Int32) (g : gT) (L : lT) (h_g : FW wA_fX11_needWithin wB_fX11_needWithin g0 g) : Kp wA_fX11_needWithin wB_fX11_needWithin g0 (fX11_needWithin fu p1 p2 p3 g L) := by
  unfold fX11_needWithin
  refine kp_ite ?_ ?_
  ·
    exact w_fX11_needWithin_p10 _ _ _ _ h_g
  ·
    refine kp_ite ?_ ?_
    ·
      exact kp_some h_g
    ·
      exact w_fX11_needWithin_p10 _ _ _ _ h_g
abbrev wA_fX11_far_0 : List (Nat × Nat) := [(8, 9)]
abbrev wB_fX11_far_0 : List Nat := [21, 25, 43, 44, 45, 46, 47, 48, 49]
theorem w_fX11_far_0_p54 (g0 : gT) (fu : Nat) (t0 : Int32) (g : gT) (L : lT) (h_g : FW wA_fX11_far_0 wB_fX11_far_0 g0 g) : Kp wA_fX11_far_0 wB_fX11_far_0 g0 (fX11_far_0_p54 fu t0 g L) := by
  unfold fX11_far_0_p54
  exact kp_some h_g
theorem w_fX11_far_0 (g0 : gT) (fu : Nat) (p1 : Int32) (p2 : Int32) (p3 : Int32) (g : gT) (L : lT) (h_g : FW wA_fX11_far_0 wB_fX11_far_0 g0 g) : Kp wA_fX11_far_0 wB_fX11_far_0 g0 (fX11_far_0 fu p1 p2 p3 g L) := by
  unfold fX11_far_0
  refine kp_cbx (w_fX11_needLesson_0 _ _ _ _ _ FW.refl) rfl rfl h_g (fun x1 g2 L3 h_g2 => ?_)
  refine kp_cbx (w_fX11_needWhat _ _ _ _ _ _ FW.refl) rfl rfl h_g2 (fun x5 g6 L7 h_g6 => ?_)
  refine kp_cbx (w_fX11_needWithin _ _ _ _ _ _ _ FW.refl) rfl rfl h_g6 (fun x9 g10 L11 h_g10 => ?_)
  refine kp_cb (w_fX10_keepEnds_9 _ _ _ _ FW.refl) rfl rfl h_g10 (fun x13 g14 L15 h_g14 => ?_)
  refine kp_cb (w_fX10_runMore_9 _ _ _ _ _ _ FW.refl) rfl rfl h_g14 (fun x17 g18 L19 h_g18 => ?_)
  refine kp_ite ?_ ?_
  ·
    refine kp_cb (w_fX10_laterBits_9 _ _ _ _ FW.refl) rfl rfl h_g18 (fun x26 g27 L28 h_g27 => ?_)
    exact w_fX11_far_0_p54 _ _ _ _ _ h_g27
  ·
    refine kp_cb (w_fX10_laterMinutes_9 _ _ _ _ FW.refl) rfl rfl h_g18 (fun x22 g23 L24 h_g23 => ?_)
    exact w_fX11_far_0_p54 _ _ _ _ _ h_g23
abbrev wA_fX11_reaches_0 : List (Nat × Nat) := [(8, 9)]
abbrev wB_fX11_reaches_0 : List Nat := [21, 25, 43, 44, 45, 46, 47, 48, 49]
theorem w_fX11_reaches_0 (g0 : gT) (fu : Nat) (p1 : Int32) (p2 : Int32) (g : gT) (L : lT) (h_g : FW wA_fX11_reaches_0 wB_fX11_reaches_0 g0 g) : Kp wA_fX11_reaches_0 wB_fX11_reaches_0 g0 (fX11_reaches_0 fu p1 p2 g L) := by
  unfold fX11_reaches_0
  refine kp_cbx (w_fX11_needLesson_0 _ _ _ _ _ FW.refl) rfl rfl h_g (fun x1 g2 L3 h_g2 => ?_)
  refine kp_cbx (w_fX11_needLesson_0 _ _ _ _ _ FW.refl) rfl rfl h_g2 (fun x5 g6 L7 h_g6 => ?_)
  refine kp_ite ?_ ?_
  ·
    exact kp_some h_g6
  ·
    refine kp_cb (w_fX10_leastThatReaches_9 _ _ _ _ _ _ FW.refl) rfl rfl h_g6 (fun x10 g11 L12 h_g11 => ?_)
    exact kp_some h_g11
abbrev wA_fX11_slack_0 : List (Nat × Nat) := [(8, 9)]
abbrev wB_fX11_slack_0 : List Nat := [21, 25, 43, 44, 45, 46, 47, 48, 49]
theorem w_fX11_slack_0 (g0 : gT) (fu : Nat) (p1 : Int32) (g : gT) (L : lT) (h_g : FW wA_fX11_slack_0 wB_fX11_slack_0 g0 g) : Kp wA_fX11_slack_0 wB_fX11_slack_0 g0 (fX11_slack_0 fu p1 g L) := by
  unfold fX11_slack_0
  refine kp_cbx (w_fX11_needLesson_0 _ _ _ _ _ FW.refl) rfl rfl h_g (fun x1 g2 L3 h_g2 => ?_)
  refine kp_cb (w_fX10_mostThatDies_9 _ _ _ _ _ FW.refl) rfl rfl h_g2 (fun x5 g6 L7 h_g6 => ?_)
  exact kp_some h_g6
abbrev wA_fJI_bitCount : List (Nat × Nat) := []
abbrev wB_fJI_bitCount : List Nat := []
theorem w_fJI_bitCount (g0 : gT) (fu : Nat) (p1 : Int32) (g : gT) (L : lT) (h_g : FW wA_fJI_bitCount wB_fJI_bitCount g0 g) : Kp wA_fJI_bitCount wB_fJI_bitCount g0 (fJI_bitCount fu p1 g L) := by
  unfold fJI_bitCount
  refine kp_lti (fun x1 => ?_)
  refine kp_lti (fun x2 => ?_)
  refine kp_lti (fun x3 => ?_)
  refine kp_lti (fun x4 => ?_)
  refine kp_lti (fun x5 => ?_)
  exact kp_some h_g
abbrev wA_fX11_gaps_0 : List (Nat × Nat) := [(0, 16), (10, 4), (10, 5), (10, 6), (10, 7), (10, 8)]
abbrev wB_fX11_gaps_0 : List Nat := [16, 21, 26, 43, 44, 45, 46, 47, 48, 50, 51]
theorem w_fX11_gaps_0_p33 (g0 : gT) (fu : Nat) (g : gT) (L : lT) (h_g : FW wA_fX11_gaps_0 wB_fX11_gaps_0 g0 g) : Kp wA_fX11_gaps_0 wB_fX11_gaps_0 g0 (fX11_gaps_0_p33 fu g L) := by
  unfold fX11_gaps_0_p33
  exact kp_some h_g
theorem w_fX11_gaps_0_p82 (g0 : gT) (fu : Nat) (v4 : Int32) (g : gT) (L : lT) (h_g : FW wA_fX11_gaps_0 wB_fX11_gaps_0 g0 g) : Kp wA_fX11_gaps_0 wB_fX11_gaps_0 g0 (fX11_gaps_0_p82 fu v4 g L) := by
  unfold fX11_gaps_0_p82
  exact kp_some h_g
theorem w_fX11_gaps_0 (g0 : gT) (fu : Nat) (p1 : Int32) (p2 : Int32) (p3 : Int32) (g : gT) (L : lT) (h_g : FW wA_fX11_gaps_0 wB_fX11_gaps_0 g0 g) : Kp wA_fX11_gaps_0 wB_fX11_gaps_0 g0 (fX11_gaps_0 fu p1 p2 p3 g L) := by
  unfold fX11_gaps_0
  refine kp_cbx (w_fX11_needLesson_0 _ _ _ _ _ FW.refl) rfl rfl h_g (fun x1 g2 L3 h_g2 => ?_)
  refine kp_cbx (w_fX11_needWithin _ _ _ _ _ _ _ FW.refl) rfl rfl h_g2 (fun x5 g6 L7 h_g6 => ?_)
  refine kp_ite ?_ ?_
  ·
    refine kp_cb (w_fJI_bitCount _ _ _ _ _ FW.refl) rfl rfl h_g6 (fun x10 g11 L12 h_g11 => ?_)
    refine kp_ite ?_ ?_
    ·
      refine kp_cb (w_fX2_fewest_10 _ _ _ _ _ _ _ FW.refl) rfl rfl h_g11 (fun x15 g16 L17 h_g16 => ?_)
      refine kp_ite ?_ ?_
      ·
        exact w_fX11_gaps_0_p82 _ _ _ _ _ h_g16
      ·
        refine kp_stA (by decide) h_g16 (fun g20 h_g20 => ?_)
        refine kp_stF (by decide) h_g20 (fun g21 h_g21 => ?_)
        exact w_fX11_gaps_0_p82 _ _ _ _ _ h_g21
    ·
      exact w_fX11_gaps_0_p33 _ _ _ _ h_g11
  ·
    exact w_fX11_gaps_0_p33 _ _ _ _ h_g6
