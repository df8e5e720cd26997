section
/-! ===== frames ===== -/
abbrev wA_fX11_gap_0 : List (Nat × Nat) := []
abbrev wB_fX11_gap_0 : List Nat := []
theorem w_fX11_gap_0 (g0 : gT) (fu : Nat) (p1 : Int32) (g : gT) (L : lT) (h_g : FW wA_fX11_gap_0 wB_fX11_gap_0 g0 g) : Kp wA_fX11_gap_0 wB_fX11_gap_0 g0 (fX11_gap_0 fu p1 g L) := by
  unfold fX11_gap_0
  refine kp_cbx (w_fX11_needLesson_0 _ _ _ _ _ FW.refl) rfl rfl h_g (fun x1 g2 L3 h_g2 => ?_)
  refine kp_ite ?_ ?_
  ·
    exact kp_some h_g2
  ·
    refine kp_ck ?_
    exact kp_some h_g2
abbrev wA_fX11_chance_0 : List (Nat × Nat) := [(8, 8), (11, 2), (11, 3)]
abbrev wB_fX11_chance_0 : List Nat := [21, 43, 44, 45, 46, 47, 48, 52]
theorem w_fX11_chance_0_p48 (g0 : gT) (fu : Nat) (t0 : Int64) (g : gT) (L : lT) (h_g : FW wA_fX11_chance_0 wB_fX11_chance_0 g0 g) : Kp wA_fX11_chance_0 wB_fX11_chance_0 g0 (fX11_chance_0_p48 fu t0 g L) := by
  unfold fX11_chance_0_p48
  exact kp_some h_g
theorem w_fX11_chance_0 (g0 : gT) (fu : Nat) (p1 : Int32) (p2 : Int32) (p3 : Int32) (g : gT) (L : lT) (h_g : FW wA_fX11_chance_0 wB_fX11_chance_0 g0 g) : Kp wA_fX11_chance_0 wB_fX11_chance_0 g0 (fX11_chance_0 fu p1 p2 p3 g L) := by
  unfold fX11_chance_0
  refine kp_cbx (w_fX11_needLesson_0 _ _ _ _ _ FW.refl) rfl rfl h_g (fun x1 g2 L3 h_g2 => ?_)
  refine kp_cbx (w_fX11_needWhat _ _ _ _ _ _ FW.refl) rfl rfl h_g2 (fun x5 g6 L7 h_g6 => ?_)
  refine kp_cbx (w_fX11_needWithin _ _ _ _ _ _ _ FW.refl) rfl rfl h_g6 (fun x9 g10 L11 h_g10 => ?_)
  refine kp_cb (w_fX0_ofLate_11 _ _ _ _ _ _ FW.refl) rfl rfl h_g10 (fun x13 g14 L15 h_g14 => ?_)
  refine kp_ite ?_ ?_
  ·
    exact w_fX11_chance_0_p48 _ _ _ _ _ h_g14
  ·
    exact w_fX11_chance_0_p48 _ _ _ _ _ h_g14
abbrev wA_fX11_mean_0 : List (Nat × Nat) := [(8, 8), (11, 2), (11, 3)]
abbrev wB_fX11_mean_0 : List Nat := [21, 43, 44, 45, 46, 47, 48, 52]
theorem w_fX11_mean_0_p39 (g0 : gT) (fu : Nat) (t0 : Int64) (g : gT) (L : lT) (h_g : FW wA_fX11_mean_0 wB_fX11_mean_0 g0 g) : Kp wA_fX11_mean_0 wB_fX11_mean_0 g0 (fX11_mean_0_p39 fu t0 g L) := by
  unfold fX11_mean_0_p39
  exact kp_some h_g
theorem w_fX11_mean_0 (g0 : gT) (fu : Nat) (p1 : Int32) (p2 : Int32) (g : gT) (L : lT) (h_g : FW wA_fX11_mean_0 wB_fX11_mean_0 g0 g) : Kp wA_fX11_mean_0 wB_fX11_mean_0 g0 (fX11_mean_0 fu p1 p2 g L) := by
  unfold fX11_mean_0
  refine kp_cbx (w_fX11_needLesson_0 _ _ _ _ _ FW.refl) rfl rfl h_g (fun x1 g2 L3 h_g2 => ?_)
  refine kp_cbx (w_fX11_needWhat _ _ _ _ _ _ FW.refl) rfl rfl h_g2 (fun x5 g6 L7 h_g6 => ?_)
  refine kp_cb (w_fX0_meanLate_11 _ _ _ _ _ FW.refl) rfl rfl h_g6 (fun x9 g10 L11 h_g10 => ?_)
  refine kp_ite ?_ ?_
  ·
    exact w_fX11_mean_0_p39 _ _ _ _ _ h_g10
  ·
    exact w_fX11_mean_0_p39 _ _ _ _ _ h_g10
abbrev wA_fX11_swap_0 : List (Nat × Nat) := [(13, 0), (13, 1), (13, 2)]
abbrev wB_fX11_swap_0 : List Nat := [21, 25, 43, 44, 45, 46, 47, 48]
theorem w_fX11_swap_0 (g0 : gT) (fu : Nat) (p1 : Int32) (g : gT) (L : lT) (h_g : FW wA_fX11_swap_0 wB_fX11_swap_0 g0 g) : Kp wA_fX11_swap_0 wB_fX11_swap_0 g0 (fX11_swap_0 fu p1 g L) := by
  unfold fX11_swap_0
  refine kp_cbx (w_fX11_needWhat _ _ _ _ _ _ FW.refl) rfl rfl h_g (fun x1 g2 L3 h_g2 => ?_)
  refine kp_cb (w_fX10_swapped_9 _ _ _ _ _ FW.refl) rfl rfl h_g2 (fun x5 g6 L7 h_g6 => ?_)
  exact kp_some h_g6
abbrev wA_fX11_room_0 : List (Nat × Nat) := [(13, 0), (13, 1), (13, 2)]
abbrev wB_fX11_room_0 : List Nat := [21, 25, 26, 27, 28, 43, 44, 45, 46, 47, 48]
theorem w_fX11_room_0 (g0 : gT) (fu : Nat) (p1 : Int32) (p2 : Int32) (g : gT) (L : lT) (h_g : FW wA_fX11_room_0 wB_fX11_room_0 g0 g) : Kp wA_fX11_room_0 wB_fX11_room_0 g0 (fX11_room_0 fu p1 p2 g L) := by
  unfold fX11_room_0
  refine kp_cbx (w_fX11_needLesson_0 _ _ _ _ _ FW.refl) rfl rfl h_g (fun x1 g2 L3 h_g2 => ?_)
  refine kp_cbx (w_fX11_needWhat _ _ _ _ _ _ FW.refl) rfl rfl h_g2 (fun x5 g6 L7 h_g6 => ?_)
  refine kp_cb (w_fX10_leastBy_9 _ _ _ _ _ _ _ FW.refl) rfl rfl h_g6 (fun x9 g10 L11 h_g10 => ?_)
  exact kp_some h_g10
abbrev wA_fX11_limit_0 : List (Nat × Nat) := [(13, 0), (13, 1), (13, 2)]
abbrev wB_fX11_limit_0 : List Nat := [21, 25, 26, 27, 28, 43, 44, 45, 46, 47, 48]
theorem w_fX11_limit_0 (g0 : gT) (fu : Nat) (p1 : Int32) (p2 : Int32) (g : gT) (L : lT) (h_g : FW wA_fX11_limit_0 wB_fX11_limit_0 g0 g) : Kp wA_fX11_limit_0 wB_fX11_limit_0 g0 (fX11_limit_0 fu p1 p2 g L) := by
  unfold fX11_limit_0
  refine kp_cbx (w_fX11_needLesson_0 _ _ _ _ _ FW.refl) rfl rfl h_g (fun x1 g2 L3 h_g2 => ?_)
  refine kp_cbx (w_fX11_needWhat _ _ _ _ _ _ FW.refl) rfl rfl h_g2 (fun x5 g6 L7 h_g6 => ?_)
  refine kp_cb (w_fX10_leastBy_9 _ _ _ _ _ _ _ FW.refl) rfl rfl h_g6 (fun x9 g10 L11 h_g10 => ?_)
  exact kp_some h_g10
abbrev wA_fX11_last_0 : List (Nat × Nat) := [(13, 0), (13, 1), (13, 2)]
abbrev wB_fX11_last_0 : List Nat := [21, 25, 43, 44, 45, 46, 47, 48]
theorem w_fX11_last_0 (g0 : gT) (fu : Nat) (g : gT) (L : lT) (h_g : FW wA_fX11_last_0 wB_fX11_last_0 g0 g) : Kp wA_fX11_last_0 wB_fX11_last_0 g0 (fX11_last_0 fu g L) := by
  unfold fX11_last_0
  refine kp_cb (w_fX10_withoutOne_9 _ _ _ _ FW.refl) rfl rfl h_g (fun x1 g2 L3 h_g2 => ?_)
  exact kp_some h_g2
abbrev wA_fX11_compare_0 : List (Nat × Nat) := [(6, 11)]
abbrev wB_fX11_compare_0 : List Nat := [21, 43, 44, 45, 46, 47, 48]
theorem w_fX11_compare_0 (g0 : gT) (fu : Nat) (p1 : Int32) (g : gT) (L : lT) (h_g : FW wA_fX11_compare_0 wB_fX11_compare_0 g0 g) : Kp wA_fX11_compare_0 wB_fX11_compare_0 g0 (fX11_compare_0 fu p1 g L) := by
  unfold fX11_compare_0
  refine kp_cb (w_fX11_isRuleOrNone_0 _ _ _ _ _ FW.refl) rfl rfl h_g (fun x1 g2 L3 h_g2 => ?_)
  refine kp_ite ?_ ?_
  ·
    exact kp_some h_g2
  ·
    refine kp_cb (w_fX10_lostByRule_9 _ _ _ _ _ FW.refl) rfl rfl h_g2 (fun x6 g7 L8 h_g7 => ?_)
    exact kp_some h_g7
abbrev wA_fX11_best_0 : List (Nat × Nat) := [(6, 11), (13, 0), (13, 1), (13, 2)]
abbrev wB_fX11_best_0 : List Nat := [21, 43, 44, 45, 46, 47, 48]
theorem w_fX11_best_0 (g0 : gT) (fu : Nat) (g : gT) (L : lT) (h_g : FW wA_fX11_best_0 wB_fX11_best_0 g0 g) : Kp wA_fX11_best_0 wB_fX11_best_0 g0 (fX11_best_0 fu g L) := by
  unfold fX11_best_0
  refine kp_cb (w_fX10_bestRule_9 _ _ _ _ FW.refl) rfl rfl h_g (fun x1 g2 L3 h_g2 => ?_)
  exact kp_some h_g2
abbrev wA_fX11_bell_0 : List (Nat × Nat) := []
abbrev wB_fX11_bell_0 : List Nat := [21, 25, 43, 44, 45, 46, 47, 48, 49]
theorem w_fX11_bell_0 (g0 : gT) (fu : Nat) (p1 : Int32) (g : gT) (L : lT) (h_g : FW wA_fX11_bell_0 wB_fX11_bell_0 g0 g) : Kp wA_fX11_bell_0 wB_fX11_bell_0 g0 (fX11_bell_0 fu p1 g L) := by
  unfold fX11_bell_0
  refine kp_cbx (w_fX11_needWithin _ _ _ _ _ _ _ FW.refl) rfl rfl h_g (fun x1 g2 L3 h_g2 => ?_)
  refine kp_cb (w_fX10_worthOfBell_9 _ _ _ _ _ FW.refl) rfl rfl h_g2 (fun x5 g6 L7 h_g6 => ?_)
  exact kp_some h_g6
abbrev wA_fX11_see_0 : List (Nat × Nat) := [(6, 10)]
abbrev wB_fX11_see_0 : List Nat := [15, 32, 33]
theorem w_fX11_see_0_p28 (g0 : gT) (fu : Nat) (g : gT) (L : lT) (h_g : FW wA_fX11_see_0 wB_fX11_see_0 g0 g) : Kp wA_fX11_see_0 wB_fX11_see_0 g0 (fX11_see_0_p28 fu g L) := by
  unfold fX11_see_0_p28
  refine kp_ck ?_
  refine kp_ck ?_
  refine kp_stB (by decide) h_g (fun g5 h_g5 => ?_)
  exact kp_some h_g5
theorem w_fX11_see_0 (g0 : gT) (fu : Nat) (p1 : Int32) (p2 : Int32) (g : gT) (L : lT) (h_g : FW wA_fX11_see_0 wB_fX11_see_0 g0 g) : Kp wA_fX11_see_0 wB_fX11_see_0 g0 (fX11_see_0 fu p1 p2 g L) := by
  unfold fX11_see_0
  refine kp_cbx (w_fX11_needLesson_0 _ _ _ _ _ FW.refl) rfl rfl h_g (fun x1 g2 L3 h_g2 => ?_)
  refine kp_ite ?_ ?_
  ·
    exact w_fX11_see_0_p28 _ _ _ _ h_g2
  ·
    refine kp_ite ?_ ?_
    ·
      exact w_fX11_see_0_p28 _ _ _ _ h_g2
    ·
      refine kp_ite ?_ ?_
      ·
        refine kp_cb (w_fX3_keepSeen_6 _ _ _ _ _ _ FW.refl) rfl rfl h_g2 (fun x9 g10 L11 h_g10 => ?_)
        exact kp_some h_g10
      ·
        exact w_fX11_see_0_p28 _ _ _ _ h_g2
abbrev wA_fX11_forget_0 : List (Nat × Nat) := [(6, 10)]
abbrev wB_fX11_forget_0 : List Nat := []
theorem w_fX11_forget_0 (g0 : gT) (fu : Nat) (g : gT) (L : lT) (h_g : FW wA_fX11_forget_0 wB_fX11_forget_0 g0 g) : Kp wA_fX11_forget_0 wB_fX11_forget_0 g0 (fX11_forget_0 fu g L) := by
  unfold fX11_forget_0
  refine kp_stF (by decide) h_g (fun g1 h_g1 => ?_)
  exact kp_some h_g1
abbrev wA_fX11_fits_0 : List (Nat × Nat) := [(9, 4), (9, 5), (9, 6)]
abbrev wB_fX11_fits_0 : List Nat := [21, 25, 43, 44, 45, 46, 47, 48]
theorem w_fX11_fits_0 (g0 : gT) (fu : Nat) (p1 : Int32) (g : gT) (L : lT) (h_g : FW wA_fX11_fits_0 wB_fX11_fits_0 g0 g) : Kp wA_fX11_fits_0 wB_fX11_fits_0 g0 (fX11_fits_0 fu p1 g L) := by
  unfold fX11_fits_0
  refine kp_cbx (w_fX11_needWhat _ _ _ _ _ _ FW.refl) rfl rfl h_g (fun x1 g2 L3 h_g2 => ?_)
  refine kp_cb (w_fX10_findBeginners_9 _ _ _ _ FW.refl) rfl rfl h_g2 (fun x5 g6 L7 h_g6 => ?_)
  refine kp_ite ?_ ?_
  ·
    exact kp_some h_g6
  ·
    refine kp_ite ?_ ?_
    ·
      exact kp_some h_g6
    ·
      exact kp_some h_g6
abbrev wA_fX11_streams_0 : List (Nat × Nat) := [(12, 5)]
abbrev wB_fX11_streams_0 : List Nat := [21, 43, 44, 45, 46, 47, 48, 53, 54, 55, 56]
theorem w_fX11_streams_0 (g0 : gT) (fu : Nat) (g : gT) (L : lT) (h_g : FW wA_fX11_streams_0 wB_fX11_streams_0 g0 g) : Kp wA_fX11_streams_0 wB_fX11_streams_0 g0 (fX11_streams_0 fu g L) := by
  unfold fX11_streams_0
  refine kp_cb (w_fX9_gather_12 _ _ _ _ FW.refl) rfl rfl h_g (fun x1 g2 L3 h_g2 => ?_)
  refine kp_cb (w_fX9_crossings_12 _ _ _ _ FW.refl) rfl rfl h_g2 (fun x5 g6 L7 h_g6 => ?_)
  exact kp_some h_g6
abbrev wA_fX11_term_0 : List (Nat × Nat) := [(8, 8), (11, 4)]
abbrev wB_fX11_term_0 : List Nat := [21, 43, 44, 45, 46, 47, 48]
theorem w_fX11_term_0 (g0 : gT) (fu : Nat) (p1 : Int32) (p2 : Int32) (p3 : Int32) (p4 : Int32) (g : gT) (L : lT) (h_g : FW wA_fX11_term_0 wB_fX11_term_0 g0 g) : Kp wA_fX11_term_0 wB_fX11_term_0 g0 (fX11_term_0 fu p1 p2 p3 p4 g L) := by
  unfold fX11_term_0
  refine kp_cbx (w_fX11_needLesson_0 _ _ _ _ _ FW.refl) rfl rfl h_g (fun x1 g2 L3 h_g2 => ?_)
  refine kp_cbx (w_fX11_needWhat _ _ _ _ _ _ FW.refl) rfl rfl h_g2 (fun x5 g6 L7 h_g6 => ?_)
  refine kp_cbx (w_fX11_needWithin _ _ _ _ _ _ _ FW.refl) rfl rfl h_g6 (fun x9 g10 L11 h_g10 => ?_)
  refine kp_cb (w_fX0_ofTerm_11 _ _ _ _ _ _ _ _ FW.refl) rfl rfl h_g10 (fun x13 g14 L15 h_g14 => ?_)
  exact kp_some h_g14
abbrev wA_fX11_on_0 : List (Nat × Nat) := [(12, 5)]
abbrev wB_fX11_on_0 : List Nat := [21, 43, 44, 45, 46, 47, 48, 53, 54, 55, 56]
theorem w_fX11_on_0_p43 (g0 : gT) (fu : Nat) (t0 : Int32) (g : gT) (L : lT) (h_g : FW wA_fX11_on_0 wB_fX11_on_0 g0 g) : Kp wA_fX11_on_0 wB_fX11_on_0 g0 (fX11_on_0_p43 fu t0 g L) := by
  unfold fX11_on_0_p43
  exact kp_some h_g
theorem w_fX11_on_0 (g0 : gT) (fu : Nat) (p1 : Int32) (p2 : Int32) (g : gT) (L : lT) (h_g : FW wA_fX11_on_0 wB_fX11_on_0 g0 g) : Kp wA_fX11_on_0 wB_fX11_on_0 g0 (fX11_on_0 fu p1 p2 g L) := by
  unfold fX11_on_0
  refine kp_cbx (w_fX11_needWhat _ _ _ _ _ _ FW.refl) rfl rfl h_g (fun x1 g2 L3 h_g2 => ?_)
  refine kp_cbx (w_fX11_needWithin _ _ _ _ _ _ _ FW.refl) rfl rfl h_g2 (fun x5 g6 L7 h_g6 => ?_)
  refine kp_cb (w_fX9_gather_12 _ _ _ _ FW.refl) rfl rfl h_g6 (fun x9 g10 L11 h_g10 => ?_)
  refine kp_ite ?_ ?_
  ·
    refine kp_cb (w_fX1_onBits_8 _ _ _ _ _ FW.refl) rfl rfl h_g10 (fun x18 g19 L20 h_g19 => ?_)
    exact w_fX11_on_0_p43 _ _ _ _ _ h_g19
  ·
    refine kp_cb (w_fX9_peopleIn_12 _ _ _ _ _ FW.refl) rfl rfl h_g10 (fun x14 g15 L16 h_g15 => ?_)
    exact w_fX11_on_0_p43 _ _ _ _ _ h_g15
abbrev wA_fX11_clash_0 : List (Nat × Nat) := []
abbrev wB_fX11_clash_0 : List Nat := [21, 43, 44, 45, 46, 47, 48]
theorem w_fX11_clash_0_p34 (g0 : gT) (fu : Nat) (t0 : Int32) (g : gT) (L : lT) (h_g : FW wA_fX11_clash_0 wB_fX11_clash_0 g0 g) : Kp wA_fX11_clash_0 wB_fX11_clash_0 g0 (fX11_clash_0_p34 fu t0 g L) := by
  unfold fX11_clash_0_p34
  exact kp_some h_g
theorem w_fX11_clash_0 (g0 : gT) (fu : Nat) (p1 : Int32) (g : gT) (L : lT) (h_g : FW wA_fX11_clash_0 wB_fX11_clash_0 g0 g) : Kp wA_fX11_clash_0 wB_fX11_clash_0 g0 (fX11_clash_0 fu p1 g L) := by
  unfold fX11_clash_0
  refine kp_cbx (w_fX11_needWhat _ _ _ _ _ _ FW.refl) rfl rfl h_g (fun x1 g2 L3 h_g2 => ?_)
  refine kp_cb (w_fX1_runFrom_8 _ _ _ _ _ FW.refl) rfl rfl h_g2 (fun x5 g6 L7 h_g6 => ?_)
  refine kp_ite ?_ ?_
  ·
    refine kp_cb (w_fX1_clashes_8 _ _ _ _ FW.refl) rfl rfl h_g6 (fun x14 g15 L16 h_g15 => ?_)
    exact w_fX11_clash_0_p34 _ _ _ _ _ h_g15
  ·
    refine kp_cb (w_fX1_firstClash_8 _ _ _ _ FW.refl) rfl rfl h_g6 (fun x10 g11 L12 h_g11 => ?_)
    exact w_fX11_clash_0_p34 _ _ _ _ _ h_g11
abbrev wA_fX11_busiest_0 : List (Nat × Nat) := [(12, 5)]
abbrev wB_fX11_busiest_0 : List Nat := [21, 43, 44, 45, 46, 47, 48, 53, 54, 55, 56]
theorem w_fX11_busiest_0_p44 (g0 : gT) (fu : Nat) (t0 : Int32) (g : gT) (L : lT) (h_g : FW wA_fX11_busiest_0 wB_fX11_busiest_0 g0 g) : Kp wA_fX11_busiest_0 wB_fX11_busiest_0 g0 (fX11_busiest_0_p44 fu t0 g L) := by
  unfold fX11_busiest_0_p44
  exact kp_some h_g
theorem w_fX11_busiest_0 (g0 : gT) (fu : Nat) (p1 : Int32) (g : gT) (L : lT) (h_g : FW wA_fX11_busiest_0 wB_fX11_busiest_0 g0 g) : Kp wA_fX11_busiest_0 wB_fX11_busiest_0 g0 (fX11_busiest_0 fu p1 g L) := by
  unfold fX11_busiest_0
  refine kp_cbx (w_fX11_needWhat _ _ _ _ _ _ FW.refl) rfl rfl h_g (fun x1 g2 L3 h_g2 => ?_)
  refine kp_cb (w_fX9_gather_12 _ _ _ _ FW.refl) rfl rfl h_g2 (fun x5 g6 L7 h_g6 => ?_)
  refine kp_cb (w_fX9_busiestMinute_12 _ _ _ _ FW.refl) rfl rfl h_g6 (fun x9 g10 L11 h_g10 => ?_)
  refine kp_ite ?_ ?_
  ·
    exact kp_some h_g10
  ·
    refine kp_ite ?_ ?_
    ·
      exact w_fX11_busiest_0_p44 _ _ _ _ _ h_g10
    ·
      refine kp_cb (w_fX9_peopleIn_12 _ _ _ _ _ FW.refl) rfl rfl h_g10 (fun x15 g16 L17 h_g16 => ?_)
      exact w_fX11_busiest_0_p44 _ _ _ _ _ h_g16
abbrev wA_fX11_idle_0 : List (Nat × Nat) := []
abbrev wB_fX11_idle_0 : List Nat := [21, 43, 44, 45, 46, 47, 48]
theorem w_fX11_idle_0 (g0 : gT) (fu : Nat) (g : gT) (L : lT) (h_g : FW wA_fX11_idle_0 wB_fX11_idle_0 g0 g) : Kp wA_fX11_idle_0 wB_fX11_idle_0 g0 (fX11_idle_0 fu g L) := by
  unfold fX11_idle_0
  refine kp_cb (w_fX1_runFrom_8 _ _ _ _ _ FW.refl) rfl rfl h_g (fun x1 g2 L3 h_g2 => ?_)
  refine kp_cb (w_fX1_idleMinutes_8 _ _ _ _ FW.refl) rfl rfl h_g2 (fun x5 g6 L7 h_g6 => ?_)
  exact kp_some h_g6
abbrev wA_fX11_shift_0 : List (Nat × Nat) := [(13, 0), (13, 1), (13, 2)]
abbrev wB_fX11_shift_0 : List Nat := [21, 43, 44, 45, 46, 47, 48, 57, 58, 59, 60, 61, 62, 63, 64, 65, 66, 67, 68]
theorem w_fX11_shift_0 (g0 : gT) (fu : Nat) (p1 : Int32) (p2 : Int32) (g : gT) (L : lT) (h_g : FW wA_fX11_shift_0 wB_fX11_shift_0 g0 g) : Kp wA_fX11_shift_0 wB_fX11_shift_0 g0 (fX11_shift_0 fu p1 p2 g L) := by
  unfold fX11_shift_0
  refine kp_cbx (w_fX11_needLesson_0 _ _ _ _ _ FW.refl) rfl rfl h_g (fun x1 g2 L3 h_g2 => ?_)
  refine kp_cbx (w_fX11_needWhat _ _ _ _ _ _ FW.refl) rfl rfl h_g2 (fun x5 g6 L7 h_g6 => ?_)
  refine kp_cb (w_fX10_leastByShift_9 _ _ _ _ _ _ FW.refl) rfl rfl h_g6 (fun x9 g10 L11 h_g10 => ?_)
  exact kp_some h_g10
abbrev wA_fX11_harm_0 : List (Nat × Nat) := []
abbrev wB_fX11_harm_0 : List Nat := [21, 25, 43, 44, 45, 46, 47, 48]
theorem w_fX11_harm_0 (g0 : gT) (fu : Nat) (p1 : Int32) (p2 : Int32) (g : gT) (L : lT) (h_g : FW wA_fX11_harm_0 wB_fX11_harm_0 g0 g) : Kp wA_fX11_harm_0 wB_fX11_harm_0 g0 (fX11_harm_0 fu p1 p2 g L) := by
  unfold fX11_harm_0
  refine kp_cbx (w_fX11_needLesson_0 _ _ _ _ _ FW.refl) rfl rfl h_g (fun x1 g2 L3 h_g2 => ?_)
  refine kp_cbx (w_fX11_needLesson_0 _ _ _ _ _ FW.refl) rfl rfl h_g2 (fun x5 g6 L7 h_g6 => ?_)
  refine kp_cb (w_fX10_harmDone_9 _ _ _ _ _ _ FW.refl) rfl rfl h_g6 (fun x9 g10 L11 h_g10 => ?_)
  exact kp_some h_g10
abbrev wA_fX11_pair_0 : List (Nat × Nat) := [(13, 0), (13, 1), (13, 2)]
abbrev wB_fX11_pair_0 : List Nat := [21, 25, 43, 44, 45, 46, 47, 48]
theorem w_fX11_pair_0 (g0 : gT) (fu : Nat) (p1 : Int32) (g : gT) (L : lT) (h_g : FW wA_fX11_pair_0 wB_fX11_pair_0 g0 g) : Kp wA_fX11_pair_0 wB_fX11_pair_0 g0 (fX11_pair_0 fu p1 g L) := by
  unfold fX11_pair_0
  refine kp_cbx (w_fX11_needWhat _ _ _ _ _ _ FW.refl) rfl rfl h_g (fun x1 g2 L3 h_g2 => ?_)
  refine kp_cb (w_fX10_withoutTwo_9 _ _ _ _ _ FW.refl) rfl rfl h_g2 (fun x5 g6 L7 h_g6 => ?_)
  exact kp_some h_g6
abbrev wA_fX11_pause_0 : List (Nat × Nat) := [(13, 0), (13, 1), (13, 2)]
abbrev wB_fX11_pause_0 : List Nat := [21, 26, 43, 44, 45, 46, 47, 48]
theorem w_fX11_pause_0 (g0 : gT) (fu : Nat) (p1 : Int32) (p2 : Int32) (g : gT) (L : lT) (h_g : FW wA_fX11_pause_0 wB_fX11_pause_0 g0 g) : Kp wA_fX11_pause_0 wB_fX11_pause_0 g0 (fX11_pause_0 fu p1 p2 g L) := by
  unfold fX11_pause_0
  refine kp_cbx (w_fX11_needWhat _ _ _ _ _ _ FW.refl) rfl rfl h_g (fun x1 g2 L3 h_g2 => ?_)
  refine kp_cbx (w_fX11_needWithin _ _ _ _ _ _ _ FW.refl) rfl rfl h_g2 (fun x5 g6 L7 h_g6 => ?_)
  refine kp_cb (w_fX10_leastByPause_9 _ _ _ _ _ _ FW.refl) rfl rfl h_g6 (fun x9 g10 L11 h_g10 => ?_)
  exact kp_some h_g10
abbrev wA_fX11_image_0 : List (Nat × Nat) := [(0, 15), (7, 9), (7, 10), (7, 11)]
abbrev wB_fX11_image_0 : List Nat := [34, 35, 36, 37, 38, 39, 40, 41, 42]
theorem w_fX11_image_0 (g0 : gT) (fu : Nat) (g : gT) (L : lT) (h_g : FW wA_fX11_image_0 wB_fX11_image_0 g0 g) : Kp wA_fX11_image_0 wB_fX11_image_0 g0 (fX11_image_0 fu g L) := by
  unfold fX11_image_0
  refine kp_cb (w_fX3_copy_7_6 _ _ _ _ FW.refl) rfl rfl h_g (fun x1 g2 L3 h_g2 => ?_)
  refine kp_stF (by decide) h_g2 (fun g5 h_g5 => ?_)
  exact kp_some h_g5
abbrev wA_fX11_restore_0 : List (Nat × Nat) := [(6, 9), (6, 10), (6, 11)]
abbrev wB_fX11_restore_0 : List Nat := [25, 26, 27, 28, 29, 30, 31, 32, 33]
theorem w_fX11_restore_0 (g0 : gT) (fu : Nat) (g : gT) (L : lT) (h_g : FW wA_fX11_restore_0 wB_fX11_restore_0 g0 g) : Kp wA_fX11_restore_0 wB_fX11_restore_0 g0 (fX11_restore_0 fu g L) := by
  unfold fX11_restore_0
  refine kp_ite ?_ ?_
  ·
    refine kp_ckb ?_
    exact kp_some h_g
  ·
    refine kp_cb (w_fX3_copy_6_7 _ _ _ _ FW.refl) rfl rfl h_g (fun x2 g3 L4 h_g3 => ?_)
    refine kp_ckb ?_
    exact kp_some h_g3
end
section
/-! ===== what holds of a run that ends ===== -/
def Pc {ρ : Type} (t : Option (ρ × zS)) (Q : ρ → gT → lT → Prop) : Prop := ∀ x g L, t = some (x, (g, L)) → Q x g L
section PC
variable {ρ β : Type} {Q : ρ → gT → lT → Prop} {g : gT} {L : lT}
theorem pc_some {x : ρ} (h : Q x g L) : Pc (some (x, (g, L))) Q := fun x' g' L' e => by cases e; exact h
theorem pc_none : Pc (none : Option (ρ × zS)) Q := fun x' g' L' e => nomatch e
theorem pc_mo {t : Option (ρ × zS)} {P : ρ → gT → lT → Prop} (h : Pc t P) (hq : ∀ x g L, P x g L → Q x g L) : Pc t Q := fun x g L e => hq x g L (h x g L e)
theorem pc_and {t : Option (ρ × zS)} {P : ρ → gT → lT → Prop} (h1 : Pc t P) (h2 : Pc t Q) : Pc t (fun x g L => P x g L ∧ Q x g L) := fun x g L e => ⟨h1 x g L e, h2 x g L e⟩
theorem pc_ex {t : Option (ρ × zS)} (h : Ex t Q) : Pc t Q := fun x g L e => by
  obtain ⟨x', g', L', e', h⟩ := h
  rw [e] at e'
  cases e'
  exact h
theorem pc_kp {A : List (Nat × Nat)} {B : List Nat} {t : Option (ρ × zS)} (h : Kp A B g t) : Pc t (fun _ g1 _ => FW A B g g1) := fun x g1 L1 e => h x (g1, L1) e
theorem pc_ck {i : Int32} {N : Nat} {K : Option (ρ × zS)} (h : 0 ≤ i.toInt → i.toInt < (N : Int) → Pc K Q) : Pc (ck i N K) Q := by
  unfold ck
  split
  · rename_i c; exact h c.1 c.2
  · exact pc_none
theorem pc_ckb {i : Int32} {K : Option (ρ × zS)} (h : Pc K Q) : Pc (ckb i K) Q := by
  unfold ckb
  split
  · exact h
  · exact pc_none
theorem pc_ckr {q : Nat} {K : Option (ρ × zS)} (h : 25 ≤ q → q ≤ 28 → Pc K Q) : Pc (ckr q K) Q := by
  unfold ckr
  split
  · rename_i c; exact h c.1 c.2
  · exact pc_none
theorem pc_ite {c : Prop} [Decidable c] {K1 K2 : Option (ρ × zS)} (h1 : c → Pc K1 Q) (h2 : ¬ c → Pc K2 Q) : Pc (if c then K1 else K2) Q := by
  split
  · rename_i c; exact h1 c
  · rename_i c; exact h2 c
theorem pc_lti {v : Int32} {K : Int32 → Option (ρ × zS)} (h : ∀ x, x = v → Pc (K x) Q) : Pc (lti v K) Q := h v rfl
theorem pc_ltn {v : Nat} {K : Nat → Option (ρ × zS)} (h : ∀ x, x = v → Pc (K x) Q) : Pc (ltn v K) Q := h v rfl
theorem pc_stl {k j : Nat} {x : Int64} {K : lT → Option (ρ × zS)} (h : ∀ L1, Pc (K L1) Q) : Pc (stl L k j x K) Q := h _
theorem pc_st {k j : Nat} {x : Int32} {K : gT → Option (ρ × zS)} (h : ∀ g1, g1 = upd2 g k j x → Pc (K g1) Q) : Pc (sti g k j x K) Q := h _ rfl
theorem pc_stA {k : Nat} {f : Nat → Int32} {K : gT → Option (ρ × zS)} (h : ∀ g1, g1 = updA g k f → Pc (K g1) Q) : Pc (stA g k f K) Q := h _ rfl
theorem pc_cb {m : Option (β × zS)} {P : β → gT → lT → Prop} {K : β → gT → lT → Option (ρ × zS)} (hm : Pc m P) (h : ∀ x g1 L1, P x g1 L1 → Pc (K x g1 L1) Q) : Pc (cb m K) Q := by
  cases m with
  | none => exact pc_none
  | some q => exact h q.1 q.2.1 q.2.2 (hm q.1 q.2.1 q.2.2 rfl)
theorem pc_loop {α : Type} {step : (α → Option (ρ × zS)) → α → Option (ρ × zS)} {n : Nat} {v : α} (I : α → Prop) (hs : ∀ k, (∀ v, I v → Pc (k v) Q) → ∀ v, I v → Pc (step k v) Q) (h : I v) : Pc (whileK step n v) Q := by
  induction n generalizing v with
  | zero => exact pc_none
  | succ n ih => exact hs _ (fun v hv => ih hv) v h
end PC
theorem pc_cbx {β γ : Type} {Q : Except String γ → gT → lT → Prop} {m : Option (Except String β × zS)} {P : Except String β → gT → lT → Prop} {K : β → gT → lT → Option (Except String γ × zS)} (hm : Pc m P) (he : ∀ E g1 L1, P (.error E) g1 L1 → Q (.error E) g1 L1) (h : ∀ x g1 L1, P (.ok x) g1 L1 → Pc (K x g1 L1) Q) : Pc (cbx m K) Q := by
  cases m with
  | none => exact pc_none
  | some q =>
    obtain ⟨q, s⟩ := q
    have e := hm q s.1 s.2 rfl
    cases q with
    | error E => exact fun x' g' L' e' => by cases e'; exact he _ _ _ e
    | ok x => exact h x s.1 s.2 e
end
section
/-! ===== the reference's house ===== -/
/-- what the whole text comes to -/
abbrev aH : List Nat := [0, 18, 19, 20, 22, 23, 24, 25, 26, 27, 28, 30, 31, 32, 33, 34, 35, 36, 37]
abbrev aHs : List Nat := [0, 1, 2, 3, 4, 18, 19, 20, 22, 23, 24, 25, 26, 27, 28, 30, 31, 32, 33, 34, 35, 36, 37, 52, 62, 65, 73, 81]
abbrev bHs : List Nat := [1, 2, 3, 4, 5, 6, 7, 8, 9, 10, 11, 12, 15, 16, 17, 18, 19, 20, 21, 22, 23, 24, 25, 26, 27, 28]
/-- where a new row of the reference is copied to -/
def cpk (k : Nat) : Nat := match k with
  | 15 => 1
  | 16 => 2
  | 17 => 3
  | 18 => 4
  | 19 => 5
  | 20 => 6
  | 21 => 7
  | 22 => 8
  | 23 => 9
  | 24 => 12
  | k => k
theorem LM.t {b : Nat → Int32} {n P l : Nat} {g g1 : gT} (hI : zI MT g) (h : LM b n P l g) (hl : l < 12) (h1 : ∀ k j, 15 ≤ k → k ≤ 22 → j < 12 → g1 k j = g k j) (h2 : ∀ j, j < 72 → g1 23 j = g 23 j) (h3 : ∀ j, j < 48 → g1 24 j = g 24 j) : LM b n P l g1 := by
  obtain ⟨y2, y3, y4, y5, y6, y7, y8, y9, y10, y11, y12, y13, y14⟩ := h
  have q22 := hI 22 l 0 6 rfl
  refine ⟨?_, ?_, ?_, ?_, ?_, ?_, ?_, ?_, ?_, ?_, ?_, ?_, fun j hj => ?_⟩
  · rw [h1 15 l (by decide) (by decide) hl]; exact y2
  · rw [h1 16 l (by decide) (by decide) hl]; exact y3
  · rw [h1 17 l (by decide) (by decide) hl]; exact y4
  · rw [h3 l (by omega)]; exact y5
  · rw [h3 (24 + l) (by omega)]; exact y6
  · rw [h1 18 l (by decide) (by decide) hl]; exact y7
  · rw [h1 19 l (by decide) (by decide) hl]; exact y8
  · rw [h1 20 l (by decide) (by decide) hl]; exact y9
  · rw [h3 (36 + l) (by omega)]; exact y10
  · rw [h1 21 l (by decide) (by decide) hl]; exact y11
  · rw [h3 (12 + l) (by omega)]; exact y12
  · rw [h1 22 l (by decide) (by decide) hl]; exact y13
  · rw [h2 (6 * l + j) (by omega)]; exact y14 j hj
theorem RM.t {b : Nat → Int32} {n m : Nat} {ρ : Nat → Nat} {u : Int} {a1 c1 a2 c2 : Nat → Int32} (h : RM b n m ρ u a1 c1) (hu : u ≤ 1900) (hm : m ≤ 4) (h1 : ∀ j, j < 4 → a2 j = a1 j) (h2 : ∀ j, j < 1900 → c2 j = c1 j) : RM b n m ρ u a2 c2 := by
  obtain ⟨y1, y2, y3⟩ := h
  refine ⟨fun r hr => by rw [h1 r (by omega)]; exact y1 r hr, y2, fun r hr i hi => ?_⟩
  have hlt2 : oM b n ρ r + i < oM b n ρ m := by
    have k1 : oM b n ρ (r + 1) ≤ oM b n ρ m := oM_le (by omega)
    have k2 : oM b n ρ (r + 1) = oM b n ρ r + ((enc (xc b n (ρ r))).length + 1) := rfl
    have hi : i < (enc (xc b n (ρ r)) ++ [0]).length := hi
    rw [List.length_append] at hi
    have hi : i < (enc (xc b n (ρ r))).length + 1 := hi
    omega
  rw [h2 _ (by omega)]
  exact y3 r hr i hi
/-- the plan of the reference -/
def pM (b : Nat → Int32) (n : Nat) (t : tS) (D : dT) (g : gT) : Prop := (∀ i, i < t.1 → LM b n (D.1 i) i (fun k => g (cpk k))) ∧ (g 0 3).toInt = D.2.2.1 ∧ (g 0 4).toInt = D.2.2.2 ∧ (∃ u, RM b n t.2.1 D.2.1 u (g 10) (g 11))
def HM (b : Nat → Int32) (n : Nat) (D : dT) (g0 : gT) (r : Except Nat tS) (g1 : gT) : Prop := match r with
  | .error p => (g1 0 20).toInt = (p : Int) ∧ Fr aH (14 :: bP) g0 g1 ∧ g1 14 = upd (g0 14) 0 (g0 14 0 + 1)
  | .ok t => (g1 0 20).toInt = -1 ∧ g1 0 81 = 0 ∧ (g1 0 1).toInt = (t.1 : Int) ∧ (g1 0 2).toInt = (t.2.1 : Int) ∧ g1 0 52 = -1 ∧ g1 0 62 = 0 ∧ g1 0 73 = 0 ∧ g1 0 65 = 0 ∧ Fr aHs bHs g0 g1 ∧ pM b n t D g1
theorem e_st {ρ : Type} {Q : ρ → gT → lT → Prop} {g : gT} {k j : Nat} {x : Int32} {K : gT → Option (ρ × zS)} (h : ∀ g1, g1 = upd2 g k j x → Ex (K g1) Q) : Ex (sti g k j x K) Q := h _ rfl
def HE (b : Nat → Int32) (n : Nat) (D : dT) (r : Except Nat tS) (g : gT) : Prop := match r with
  | .error p => bM p g
  | .ok t => (g 0 19).toInt = 0 ∧ (g 0 20).toInt = -1 ∧ tn t g ∧ dM b n t D g ∧ zI MT g
set_option maxHeartbeats 8000000 in
theorem t_house {fu : Nat} (hfu : 1180591620717411303424 ≤ fu) {b : Nat → Int32} {n : Nat} {p1 : Int32} {g0 : gT} {L0 : lT} (hI : zI MT g0) (hn : p1.toInt = (n : Int)) (h18 : p1.toInt ≤ (g0 0 18).toInt) (hb : ∀ j, j < n → g0 13 j = b j) : Ex (fX12_house fu p1 g0 L0) (fun (r : Int32) g1 L1 => HM b n (hoD b n 702 (0, 0, false, false) D0 (sk b n 0)) g0 (hoS b n 702 (0, 0, false, false) (sk b n 0)) g1) := by
  have q18 := hI 0 18 0 700 rfl
  have hn7 : n ≤ 700 := by omega
  unfold fX12_house
  refine Ex.sti (hI.updN rfl) (fun ga gae hIa => ?_)
  have a0 : ga 0 0 = 0 := by rw [gae]; exact upd2_at
  have a18 : ga 0 18 = g0 0 18 := by rw [gae]; rfl
  rw [a18]
  refine Ex.ite (fun c => by have := icc_lt (m := p1.toInt) (n := 0) rfl (by decide) c; omega) (fun _ => ?_)
  refine Ex.ite (fun c => by have := icc_lt (m := (g0 0 18).toInt) (n := p1.toInt) rfl rfl c; omega) (fun _ => ?_)
  unfold fX12_house_p23
  have e : fX12_right fu 1 1 ga L0 = some (1, (ga, L0)) := by
    unfold fX12_right
    rw [if_pos a0, if_neg (by decide)]
    unfold fX12_right_p16 fX12_right_p28
    rw [ckb0, ckb1, if_pos a0]
  rw [e]
  refine e_b1 ?_
  refine Ex.sti (hIa.upd (lo := 0) (hi := 700) rfl (by decide) (by decide)) (fun g7 g7e hI7 => ?_)
  refine Ex.sti (hI7.updN rfl) (fun g8 g8e hI8 => ?_)
  refine Ex.sti (hI8.updN rfl) (fun g9 g9e hI9 => ?_)
  refine Ex.sti (hI9.upd (lo := 0) (hi := 700) rfl (by omega) (by omega)) (fun g10 g10e hI10 => ?_)
  refine Ex.sti (hI10.upd (lo := 0) (hi := 700) rfl (by decide) (by decide)) (fun g11 g11e hI11 => ?_)
  refine Ex.sti (hI11.upd (lo := 0) (hi := 12) rfl (by decide) (by decide)) (fun g12 g12e hI12 => ?_)
  refine Ex.sti (hI12.upd (lo := 0) (hi := 4) rfl (by decide) (by decide)) (fun g13 g13e hI13 => ?_)
  refine Ex.sti (hI13.updN rfl) (fun g14 g14e hI14 => ?_)
  refine Ex.sti (hI14.updN rfl) (fun g15 g15e hI15 => ?_)
  refine Ex.sti (hI15.updN rfl) (fun g16 g16e hI16 => ?_)
  refine Ex.sti (hI16.upd (lo := 0) (hi := 1900) rfl (by decide) (by decide)) (fun g17 g17e hI17 => ?_)
  have s19 : g17 0 19 = 0 := by rw [g17e, g16e, g15e, g14e, g13e, g12e, g11e, g10e, g9e]; rfl
  have s20 : g17 0 20 = -1 := by rw [g17e, g16e, g15e, g14e, g13e, g12e, g11e, g10e, g9e, g8e]; rfl
  have s22 : g17 0 22 = p1 := by rw [g17e, g16e, g15e, g14e, g13e, g12e, g11e, g10e]; rfl
  have s23 : g17 0 23 = 0 := by rw [g17e, g16e, g15e, g14e, g13e, g12e, g11e]; rfl
  have s30 : g17 0 30 = 0 := by rw [g17e, g16e, g15e, g14e, g13e, g12e]; rfl
  have s31 : g17 0 31 = 0 := by rw [g17e, g16e, g15e, g14e, g13e]; rfl
  have s33 : g17 0 33 = 99 := by rw [g17e, g16e, g15e]; rfl
  have s32 : g17 0 32 = 1 := by rw [g17e, g16e, g15e, g14e]; rfl
  have s34 : g17 0 34 = 0 := by rw [g17e, g16e]; rfl
  have s35 : g17 0 35 = 0 := by rw [g17e]; exact upd2_at
  have s81 : Fr aH bP g0 g17 := by rw [g17e, g16e, g15e, g14e, g13e, g12e, g11e, g10e, g9e, g8e, g7e, gae]; exact (((((((((((Fr.refl.u0 (by decide)).u0 (by decide)).u0 (by decide)).u0 (by decide)).u0 (by decide)).u0 (by decide)).u0 (by decide)).u0 (by decide)).u0 (by decide)).u0 (by decide)).u0 (by decide)).u0 (by decide)
  have s13 : g17 13 = g0 13 := by rw [g17e, g16e, g15e, g14e, g13e, g12e, g11e, g10e, g9e, g8e, g7e, gae]; rfl
  clear g17e g16e g15e g14e g13e g12e g11e g10e g9e g8e g7e hI7 hI8 hI9 hI10 hI11 hI12 hI13 hI14 hI15 hI16
  have u23 : (g17 0 23).toInt = 0 := by rw [s23]; rfl
  have u22 : (g17 0 22).toInt = (n : Int) := by rw [s22]; exact hn
  have b17 : ∀ j, j < n → g17 13 j = b j := fun j hj => by rw [s13]; exact hb j hj
  refine Ex.cb (tX12_goes fu hfu g17 L0 hI17 (by omega)) (fun _ gs Ls hq => ?_)
  obtain ⟨⟨k1, k2, k3, k4⟩, hm⟩ := hq
  have eN : mN g17 = n := by show (g17 0 22).toInt.toNat = n; omega
  have e3 : (g17 0 23).toInt.toNat = 0 := by omega
  have e13 : gs 13 = g17 13 := k2.2 13 (by decide) (by decide)
  have eN1 : mN gs = n := by show (gs 0 22).toInt.toNat = n; rw [k2.i (by decide)]; omega
  rw [eN, e3, sk_c b17] at hm
  have hsk := sk_le (b := b) (n := n) (p := 0) (Nat.zero_le _)
  generalize sk b n 0 = P0 at hm hsk
  obtain ⟨t1, t2, t3, t4, t5, t6, t7⟩ := hm
  rw [e13, eN1] at t2 t3 t4 t5 t6 t7
  rw [tK_c b17] at t2 t7
  rw [tE_c b17] at t3 t6 t7
  rw [tV_c hsk.2 b17] at t4
  have hE2 := tE_le (b := b) hsk.2
  have pc : ∀ k, P0 + k ≤ n → pI (g17 13) P0 k = pI b P0 k := by
    intro k
    induction k with
    | zero => intro _; rfl
    | succ k ih => intro hk; unfold pI; rw [ih (by omega), b17 (P0 + k) (by omega)]
  have hcs : cM b n P0 gs Ls := by
    refine ⟨k1, hn7, hsk.2, (k2.i (by decide)).trans u22, fun j hj => by rw [e13]; exact b17 j hj, t1, t2, t3, t4, fun h => (t5 h).trans (b17 _ h), t6, fun h => ?_, by rw [k2.i (by decide), s19]; rfl, by rw [k2.i (by decide), s20]; rfl⟩
    rw [← pc _ (by omega)]
    exact t7 h
  have hts : tn (0, 0, false, false) gs := ⟨by rw [k2.i (by decide), s30]; rfl, by rw [k2.i (by decide), s31]; rfl, by rw [k2.1 34 (by decide), s34]; rfl⟩
  have v30 : gs 0 30 = 0 := by rw [k2.1 30 (by decide)]; exact s30
  have v31 : gs 0 31 = 0 := by rw [k2.1 31 (by decide)]; exact s31
  have v33 : gs 0 33 = 99 := by rw [k2.1 33 (by decide)]; exact s33
  have v32 : gs 0 32 = 1 := by rw [k2.1 32 (by decide)]; exact s32
  have v35 : gs 0 35 = 0 := by rw [k2.1 35 (by decide)]; exact s35
  have v81 : Fr aH bP g0 gs := s81.tr (k2.mo (by decide) (by decide))
  have hds : gd gs := by
    have q25 := k1 0 25 0 700 rfl
    refine ⟨?_, ?_, ?_, ?_, ?_⟩
    · unfold mLs; rw [v30]; intro i hi; exact absurd hi (by show ¬ (i : Int) < 0; omega)
    · unfold rOk; rw [v31]; intro i hi; exact absurd hi (by show ¬ (i : Int) < 0; omega)
    · rw [v35]; show (0 : Int) ≤ _; omega
    · rw [v33]; decide
    · rw [v33]; decide
  have hDs : dM b n (0, 0, false, false) D0 gs := ⟨fun i hi => absurd hi (Nat.not_lt_zero _), by rw [v32]; rfl, by rw [v33]; rfl, fun r hr => absurd hr (Nat.not_lt_zero _), by rw [v35]; rfl, fun r hr => absurd hr (Nat.not_lt_zero _)⟩
  clear t1 t2 t3 t4 t5 t6 t7 pc k3 k4 k2 e13 eN1 eN e3 s19 s20 s22 s23 s30 s31 s33 s34 s35 s81 s13
  generalize hR : hoS b n 702 (0, 0, false, false) P0 = R
  generalize hDD : hoD b n 702 (0, 0, false, false) D0 P0 = DD
  unfold fX12_house_l92
  -- the end
  have fin : ∀ (g : gT) (L : lT), Fr aH bP g0 g → HE b n DD R g → Ex (fX12_house_p113 fu g L) (fun (r : Int32) g1 L1 => HM b n DD g0 R g1) := by
    intro g L h81 h
    unfold fX12_house_p113
    cases R with
    | error p =>
      have h : bM p g := h
      refine e_good (fun hg => absurd hg h.2.2.1) (fun _ => ?_)
      refine Ex.ck (by decide) (by decide) ?_
      refine Ex.ck (by decide) (by decide) ?_
      have e14 : g 14 = g0 14 := h81.2 14 (by decide) (by decide)
      refine ⟨_, _, _, rfl, h.2.2.2, (h81.mo (by decide) (by decide)).uk (by decide) (by decide), ?_⟩
      rw [upd2_k, e14]
      rfl
    | ok u =>
      have h : (g 0 19).toInt = 0 ∧ (g 0 20).toInt = -1 ∧ tn u g ∧ dM b n u DD g ∧ zI MT g := h
      refine e_good (fun _ => ?_) (fun hb => absurd h.1 hb)
      refine e_st (fun ga1 x1 => ?_)
      refine e_st (fun ga2 x2 => ?_)
      refine e_st (fun ga3 x3 => ?_)
      refine e_st (fun ga4 x4 => ?_)
      have y20 : ga4 0 20 = g 0 20 := by rw [x4, x3, x2, x1]; rfl
      have y1 : ga4 0 1 = g 0 30 := by rw [x4, x3, x2, x1]; rfl
      have y2 : ga4 0 2 = g 0 31 := by rw [x4, x3, x2, x1]; rfl
      have yF : Fr aHs bHs g0 ga4 := by rw [x4, x3, x2, x1]; exact ((((h81.mo (by decide) (by decide)).u0 (by decide)).u0 (by decide)).u0 (by decide)).u0 (by decide)
      have y3 : ga4 0 3 = g 0 32 := by rw [x4, x3, x2, x1]; rfl
      have y4 : ga4 0 4 = g 0 33 := by rw [x4, x3, x2, x1]; rfl
      have yk : ∀ k, k ≠ 0 → ga4 k = g k := fun k hk => by rw [x4, x3, x2, x1]; exact funext fun i => by rw [upd2_nk hk, upd2_nk hk, upd2_nk hk, upd2_nk hk]
      clear x1 x2 x3 x4
      refine Ex.cb (uX12_copies_15_1 fu hfu ga4 L) (fun _ gb1 L1 hc1 => ?_)
      refine Ex.cb (uX12_copies_16_2 fu hfu gb1 L1) (fun _ gb2 L2 hc2 => ?_)
      refine Ex.cb (uX12_copies_17_3 fu hfu gb2 L2) (fun _ gb3 L3 hc3 => ?_)
      refine Ex.cb (uX12_copies_18_4 fu hfu gb3 L3) (fun _ gb4 L4 hc4 => ?_)
      refine Ex.cb (uX12_copies_19_5 fu hfu gb4 L4) (fun _ gb5 L5 hc5 => ?_)
      refine Ex.cb (uX12_copies_20_6 fu hfu gb5 L5) (fun _ gb6 L6 hc6 => ?_)
      refine Ex.cb (uX12_copies_21_7 fu hfu gb6 L6) (fun _ gb7 L7 hc7 => ?_)
      refine Ex.cb (uX12_copies_22_8 fu hfu gb7 L7) (fun _ gb8 L8 hc8 => ?_)
      refine Ex.cb (uX12_copies_23_9 fu hfu gb8 L8) (fun _ gb9 L9 hc9 => ?_)
      refine Ex.cb (uX12_copies_24_12 fu hfu gb9 L9) (fun _ gb10 L10 hc10 => ?_)
      refine Ex.cb (uX12_copies_25_10 fu hfu gb10 L10) (fun _ gb11 L11 hc11 => ?_)
      refine Ex.cb (uX12_copies_26_11 fu hfu gb11 L11) (fun _ gb12 L12 hc12 => ?_)
      have w0 : gb12 0 = ga4 0 := by
        rw [hc12, cpd_ne (by decide), hc11, cpd_ne (by decide), hc10, cpd_ne (by decide), hc9, cpd_ne (by decide), hc8, cpd_ne (by decide), hc7, cpd_ne (by decide), hc6, cpd_ne (by decide), hc5, cpd_ne (by decide), hc4, cpd_ne (by decide), hc3, cpd_ne (by decide), hc2, cpd_ne (by decide), hc1, cpd_ne (by decide)]
      have wF : Fr aHs bHs g0 gb12 := by
        refine ⟨fun j hj => by rw [w0]; exact yF.1 j hj, fun k h0 hk => ?_⟩
        have nk : ∀ m, m ∈ bHs → k ≠ m := fun m hm e => hk (e ▸ hm)
        rw [hc12, cpd_ne (nk 11 (by decide)), hc11, cpd_ne (nk 10 (by decide)), hc10, cpd_ne (nk 12 (by decide)), hc9, cpd_ne (nk 9 (by decide)), hc8, cpd_ne (nk 8 (by decide)), hc7, cpd_ne (nk 7 (by decide)), hc6, cpd_ne (nk 6 (by decide)), hc5, cpd_ne (nk 5 (by decide)), hc4, cpd_ne (nk 4 (by decide)), hc3, cpd_ne (nk 3 (by decide)), hc2, cpd_ne (nk 2 (by decide)), hc1, cpd_ne (nk 1 (by decide))]
        exact yF.2 k h0 hk
      have hpM : pM b n u DD gb12 := by
        obtain ⟨-, -, ⟨t1, t2, -⟩, ⟨z1, z2, z3, z4⟩, hIg⟩ := h
        have q30 := hIg 0 30 0 12 rfl
        have q31 := hIg 0 31 0 4 rfl
        have q35 := hIg 0 35 0 1900 rfl
        have c1 : ∀ j, j < 12 → gb12 1 j = g 15 j := fun j hj => by
          rw [hc12, cpd_ne (by decide), hc11, cpd_ne (by decide), hc10, cpd_ne (by decide), hc9, cpd_ne (by decide), hc8, cpd_ne (by decide), hc7, cpd_ne (by decide), hc6, cpd_ne (by decide), hc5, cpd_ne (by decide), hc4, cpd_ne (by decide), hc3, cpd_ne (by decide), hc2, cpd_ne (by decide), hc1, cpd_at hj, yk 15 (by decide)]
        have c2 : ∀ j, j < 12 → gb12 2 j = g 16 j := fun j hj => by
          rw [hc12, cpd_ne (by decide), hc11, cpd_ne (by decide), hc10, cpd_ne (by decide), hc9, cpd_ne (by decide), hc8, cpd_ne (by decide), hc7, cpd_ne (by decide), hc6, cpd_ne (by decide), hc5, cpd_ne (by decide), hc4, cpd_ne (by decide), hc3, cpd_ne (by decide), hc2, cpd_at hj, hc1, cpd_ne (by decide), yk 16 (by decide)]
        have c3 : ∀ j, j < 12 → gb12 3 j = g 17 j := fun j hj => by
          rw [hc12, cpd_ne (by decide), hc11, cpd_ne (by decide), hc10, cpd_ne (by decide), hc9, cpd_ne (by decide), hc8, cpd_ne (by decide), hc7, cpd_ne (by decide), hc6, cpd_ne (by decide), hc5, cpd_ne (by decide), hc4, cpd_ne (by decide), hc3, cpd_at hj, hc2, cpd_ne (by decide), hc1, cpd_ne (by decide), yk 17 (by decide)]
        have c4 : ∀ j, j < 12 → gb12 4 j = g 18 j := fun j hj => by
          rw [hc12, cpd_ne (by decide), hc11, cpd_ne (by decide), hc10, cpd_ne (by decide), hc9, cpd_ne (by decide), hc8, cpd_ne (by decide), hc7, cpd_ne (by decide), hc6, cpd_ne (by decide), hc5, cpd_ne (by decide), hc4, cpd_at hj, hc3, cpd_ne (by decide), hc2, cpd_ne (by decide), hc1, cpd_ne (by decide), yk 18 (by decide)]
        have c5 : ∀ j, j < 12 → gb12 5 j = g 19 j := fun j hj => by
          rw [hc12, cpd_ne (by decide), hc11, cpd_ne (by decide), hc10, cpd_ne (by decide), hc9, cpd_ne (by decide), hc8, cpd_ne (by decide), hc7, cpd_ne (by decide), hc6, cpd_ne (by decide), hc5, cpd_at hj, hc4, cpd_ne (by decide), hc3, cpd_ne (by decide), hc2, cpd_ne (by decide), hc1, cpd_ne (by decide), yk 19 (by decide)]
        have c6 : ∀ j, j < 12 → gb12 6 j = g 20 j := fun j hj => by
          rw [hc12, cpd_ne (by decide), hc11, cpd_ne (by decide), hc10, cpd_ne (by decide), hc9, cpd_ne (by decide), hc8, cpd_ne (by decide), hc7, cpd_ne (by decide), hc6, cpd_at hj, hc5, cpd_ne (by decide), hc4, cpd_ne (by decide), hc3, cpd_ne (by decide), hc2, cpd_ne (by decide), hc1, cpd_ne (by decide), yk 20 (by decide)]
        have c7 : ∀ j, j < 12 → gb12 7 j = g 21 j := fun j hj => by
          rw [hc12, cpd_ne (by decide), hc11, cpd_ne (by decide), hc10, cpd_ne (by decide), hc9, cpd_ne (by decide), hc8, cpd_ne (by decide), hc7, cpd_at hj, hc6, cpd_ne (by decide), hc5, cpd_ne (by decide), hc4, cpd_ne (by decide), hc3, cpd_ne (by decide), hc2, cpd_ne (by decide), hc1, cpd_ne (by decide), yk 21 (by decide)]
        have c8 : ∀ j, j < 12 → gb12 8 j = g 22 j := fun j hj => by
          rw [hc12, cpd_ne (by decide), hc11, cpd_ne (by decide), hc10, cpd_ne (by decide), hc9, cpd_ne (by decide), hc8, cpd_at hj, hc7, cpd_ne (by decide), hc6, cpd_ne (by decide), hc5, cpd_ne (by decide), hc4, cpd_ne (by decide), hc3, cpd_ne (by decide), hc2, cpd_ne (by decide), hc1, cpd_ne (by decide), yk 22 (by decide)]
        have c9 : ∀ j, j < 72 → gb12 9 j = g 23 j := fun j hj => by
          rw [hc12, cpd_ne (by decide), hc11, cpd_ne (by decide), hc10, cpd_ne (by decide), hc9, cpd_at hj, hc8, cpd_ne (by decide), hc7, cpd_ne (by decide), hc6, cpd_ne (by decide), hc5, cpd_ne (by decide), hc4, cpd_ne (by decide), hc3, cpd_ne (by decide), hc2, cpd_ne (by decide), hc1, cpd_ne (by decide), yk 23 (by decide)]
        have c10 : ∀ j, j < 48 → gb12 12 j = g 24 j := fun j hj => by
          rw [hc12, cpd_ne (by decide), hc11, cpd_ne (by decide), hc10, cpd_at hj, hc9, cpd_ne (by decide), hc8, cpd_ne (by decide), hc7, cpd_ne (by decide), hc6, cpd_ne (by decide), hc5, cpd_ne (by decide), hc4, cpd_ne (by decide), hc3, cpd_ne (by decide), hc2, cpd_ne (by decide), hc1, cpd_ne (by decide), yk 24 (by decide)]
        have c11 : ∀ j, j < 4 → gb12 10 j = g 25 j := fun j hj => by
          rw [hc12, cpd_ne (by decide), hc11, cpd_at hj, hc10, cpd_ne (by decide), hc9, cpd_ne (by decide), hc8, cpd_ne (by decide), hc7, cpd_ne (by decide), hc6, cpd_ne (by decide), hc5, cpd_ne (by decide), hc4, cpd_ne (by decide), hc3, cpd_ne (by decide), hc2, cpd_ne (by decide), hc1, cpd_ne (by decide), yk 25 (by decide)]
        have c12 : ∀ j, j < 1900 → gb12 11 j = g 26 j := fun j hj => by
          rw [hc12, cpd_at hj, hc11, cpd_ne (by decide), hc10, cpd_ne (by decide), hc9, cpd_ne (by decide), hc8, cpd_ne (by decide), hc7, cpd_ne (by decide), hc6, cpd_ne (by decide), hc5, cpd_ne (by decide), hc4, cpd_ne (by decide), hc3, cpd_ne (by decide), hc2, cpd_ne (by decide), hc1, cpd_ne (by decide), yk 26 (by decide)]
        refine ⟨fun i hi => LM.t hIg (z1 i hi) (by omega) (fun k j a c hj => ?_) c9 c10, ?_, ?_, (g 0 35).toInt, z4.t (by omega) (by omega) c11 c12⟩
        · rcases (by omega : k = 15 ∨ k = 16 ∨ k = 17 ∨ k = 18 ∨ k = 19 ∨ k = 20 ∨ k = 21 ∨ k = 22) with rfl | rfl | rfl | rfl | rfl | rfl | rfl | rfl
          · exact c1 j hj
          · exact c2 j hj
          · exact c3 j hj
          · exact c4 j hj
          · exact c5 j hj
          · exact c6 j hj
          · exact c7 j hj
          · exact c8 j hj
        · rw [w0, y3]; exact z2
        · rw [w0, y4]; exact z3
      refine ⟨_, _, _, rfl, ?_, rfl, ?_, ?_, rfl, rfl, rfl, rfl, ((((wF.u0 (by decide)).u0 (by decide)).u0 (by decide)).u0 (by decide)).u0 (by decide), hpM⟩
      · show (gb12 0 20).toInt = -1
        rw [w0, y20]; exact h.2.1
      · show (gb12 0 1).toInt = _
        rw [w0, y1]; exact h.2.2.1.1
      · show (gb12 0 2).toInt = _
        rw [w0, y2]; exact h.2.2.1.2.1
  refine Ex.loop (α := gT × lT) (fun v => Fr aH bP g0 v.1 ∧ ((∃ (t : tS) (D : dT) (P f : Nat), hoS b n f t P = R ∧ (∀ t', R = .ok t' → hoD b n f t D P = DD) ∧ dM b n t D v.1 ∧ cM b n P v.1 v.2 ∧ tn t v.1 ∧ gd v.1 ∧ n + 1 ≤ f + P) ∨ (∃ p, R = .error p ∧ bM p v.1))) (fun v => mm v.1) (by omega) (by show mm gs < (fu : Int); have := mm_le k1; omega) ⟨v81, Or.inl ⟨(0, 0, false, false), D0, P0, 702, hR, fun _ _ => hDD, hDs, hcs, hts, hds, by omega⟩⟩ (fun k92 v hv ih => ?_)
  obtain ⟨g, L⟩ := v
  obtain ⟨h81, hI2⟩ := hv
  have h81 : Fr aH bP g0 g := h81
  show Ex (fX12_house_s92 fu k92 g L) _
  unfold fX12_house_s92
  rcases hI2 with ⟨t, D, P, f, q1, qD, qM, q2, q3, q5, q4⟩ | ⟨p, q1, q2⟩
  rotate_left
  · have q2 : bM p g := q2
    refine e_good (fun hg => absurd hg q2.2.2.1) (fun _ => fin g L h81 ?_)
    rw [q1]; exact q2
  have q2 : cM b n P g L := q2
  have q3 : tn t g := q3
  have qM : dM b n t D g := qM
  have q5 : gd g := q5
  obtain ⟨a1, a2, a3, a4, a5, a6, a7, a8, a9, a10, a11, a12, a13, a14⟩ := id q2
  obtain ⟨f, rfl⟩ : ∃ f', f = f' + 1 := ⟨f - 1, by omega⟩
  unfold hoS at q1
  unfold hoD at qD
  refine e_good (fun _ => ?_) (fun hb => absurd a13 hb)
  refine Ex.ite (fun c => ?_) (fun c => ?_)
  · have c := icc_eq (m := (g 0 24).toInt) (n := 0) rfl (by decide) c
    have k0 : tK b n P = 0 := sM_0.mp (by omega)
    rw [if_pos k0] at q1 qD
    refine fin g L h81 ?_
    rw [← qD t q1.symm, ← q1]; exact ⟨a13, a14, q3, qM, a1⟩
  have c := icc_neq (m := (g 0 24).toInt) (n := 0) rfl (by decide) c
  have k0 : ¬ tK b n P = 0 := fun h => c (by rw [a7]; exact sM_0.mpr h)
  rw [if_neg k0] at q1 qD
  have hpos : 0 < mm g := by rw [mm_g a13]; omega
  refine Ex.cb ((t_line hfu q2 q3 qM q5).and (sX12_line fu hfu g L a1 q2.pn a13 q5)) (fun _ gl Ll hx => ?_)
  obtain ⟨hx, hl⟩ := hx
  have l81 : Fr aH bP g0 gl := h81.tr (hl.2.1.mo (by decide) (by decide))
  cases hli : liS b n t P with
  | error p =>
    rw [hli] at hx q1
    exact ih (gl, Ll) ⟨l81, Or.inr ⟨p, q1.symm, hx⟩⟩ (mm_lt a1 a13 (fun hb => absurd hb hx.2.2.1)) hpos
  | ok q =>
    rw [hli] at hx q1 qD
    have hle := liS_le a3 hli
    have hgd := (hl.2.2.2 hx.1.c.2.2.2.2.2.2.2.2.2.2.2.1)
    exact ih (gl, Ll) ⟨l81, Or.inl ⟨q.1, liD b n t D P, q.2, f, q1, qD, hx.2.2, hx.1, hx.2.1, hgd.2, by omega⟩⟩ (mm_lt a1 a13 (fun _ => hgd.1)) hpos
end
section
/-! ===== the tapes ===== -/
theorem b_and255 (x y : BitVec 32) (h : ∀ i, i < 8 → x.getLsbD i = y.getLsbD i) : x &&& 255#32 = y &&& 255#32 := by
  apply BitVec.eq_of_getLsbD_eq
  intro i hi
  rw [BitVec.getLsbD_and, BitVec.getLsbD_and]
  by_cases h8 : i < 8
  · rw [h i h8]
  · have e : (255#32).getLsbD i = false := by
      have key : ∀ i, i < 32 → ¬ i < 8 → (255#32).getLsbD i = false := by decide
      exact key i hi h8
    rw [e, Bool.and_false, Bool.and_false]
theorem byte_eq (v1 v2 : Int32) (hv : v2 = 24 ∨ v2 = 16 ∨ v2 = 8 ∨ v2 = 0) : ((Int32.toUInt32 v1 >>> (Int32.toUInt32 v2 &&& Int32.toUInt32 31)).toInt32 &&& 255) = (((v1 : Int32) >>> ((v2 : Int32) &&& 31) : Int32) &&& 255) := by
  apply Int32.toBitVec_inj.mp
  rw [Int32.toBitVec_and, Int32.toBitVec_and]
  have key : ∀ m : Nat, m ≤ 24 → (Int32.toUInt32 v2 &&& Int32.toUInt32 31).toBitVec % 32 = BitVec.ofNat 32 m → (v2 &&& 31).toBitVec.smod 32 = BitVec.ofNat 32 m → ((Int32.toUInt32 v1 >>> (Int32.toUInt32 v2 &&& Int32.toUInt32 31)).toInt32).toBitVec &&& (255 : Int32).toBitVec = (v1 >>> (v2 &&& 31)).toBitVec &&& (255 : Int32).toBitVec := by
    intro m hm h1 h2
    refine b_and255 _ _ (fun i hi => ?_)
    have e1 : ((Int32.toUInt32 v1 >>> (Int32.toUInt32 v2 &&& Int32.toUInt32 31)).toInt32).toBitVec = v1.toBitVec >>> (BitVec.ofNat 32 m) := by
      show (Int32.toUInt32 v1 >>> (Int32.toUInt32 v2 &&& Int32.toUInt32 31)).toBitVec = _
      rw [UInt32.toBitVec_shiftRight, h1]; rfl
    have en : (BitVec.ofNat 32 m).toNat = m := by rw [BitVec.toNat_ofNat]; exact Nat.mod_eq_of_lt (by omega)
    rw [e1, Int32.toBitVec_shiftRight, h2]
    show (v1.toBitVec >>> (BitVec.ofNat 32 m).toNat).getLsbD i = (v1.toBitVec.sshiftRight (BitVec.ofNat 32 m).toNat).getLsbD i
    rw [en, BitVec.getLsbD_ushiftRight, BitVec.getLsbD_sshiftRight]
    have c1 : m + i < 32 := by omega
    have c2 : ¬ 32 ≤ i := by omega
    simp [c1, c2]
  rcases hv with rfl | rfl | rfl | rfl
  · exact key 24 (by decide) (by decide) (by decide)
  · exact key 16 (by decide) (by decide) (by decide)
  · exact key 8 (by decide) (by decide) (by decide)
  · exact key 0 (by decide) (by decide) (by decide)
/-- both tapes hold the same -/
def TP (g gm : gT) : Prop := g 0 13 = gm 0 18 ∧ ∀ j : Nat, (j : Int) < (gm 0 18).toInt → g 14 j = gm 13 j
theorem put_step {fu : Nat} {v1 v2 : Int32} {k3 : Int32 × gT × lT → Option (Unit × zS)} {g : gT} {L : lT} (h0 : 0 ≤ (g 0 13).toInt) (h1 : (g 0 13).toInt < 700) (hv : ¬ v2 < 0) : fX11_put_0_s3 fu v1 k3 v2 g L = k3 (v2 + (-8), upd2 (upd2 g 14 (g 0 13).toInt.toNat ((Int32.toUInt32 v1 >>> (Int32.toUInt32 v2 &&& Int32.toUInt32 31)).toInt32 &&& 255)) 0 13 (g 0 13 + 1), L) := by
  unfold fX11_put_0_s3 fX11_put_0_p45
  rw [if_neg hv, if_neg (fun h => by have := icc_le (m := 700) (n := (g 0 13).toInt) (by decide) rfl h; omega), ck_eq h0 h1]
  rfl
theorem lay_step {fu : Nat} {v1 v2 : Int32} {k3 : Int32 × gT × lT → Option (Unit × zS)} {g : gT} {L : lT} (h0 : 0 ≤ (g 0 18).toInt) (h1 : (g 0 18).toInt < 700) (hv : ¬ v2 < 0) : fX12_lays_s3 fu v1 k3 v2 g L = k3 (v2 + (-8), upd2 (upd2 g 13 (g 0 18).toInt.toNat (((v1 : Int32) >>> ((v2 : Int32) &&& 31) : Int32) &&& 255)) 0 18 (g 0 18 + 1), L) := by
  unfold fX12_lays_s3
  rw [if_neg hv, ck_eq h0 h1]
  rfl
theorem tp_step {g gm : gT} {x : Int32} (h : TP g gm) (h0 : 0 ≤ (gm 0 18).toInt) (h1 : (gm 0 18).toInt < 700) : TP (upd2 (upd2 g 14 (g 0 13).toInt.toNat x) 0 13 (g 0 13 + 1)) (upd2 (upd2 gm 13 (gm 0 18).toInt.toNat x) 0 18 (gm 0 18 + 1)) ∧ (upd2 (upd2 gm 13 (gm 0 18).toInt.toNat x) 0 18 (gm 0 18 + 1) 0 18).toInt = (gm 0 18).toInt + 1 := by
  have ew : (gm 0 18 + 1).toInt = (gm 0 18).toInt + 1 := ic_addc rfl (by decide) (by omega) (by omega)
  refine ⟨⟨?_, fun j hj => ?_⟩, by rw [upd2_at]; exact ew⟩
  · rw [upd2_at, upd2_at, h.1]
  · rw [upd2_at, ew] at hj
    have n1 : ∀ y : Int32, upd2 (upd2 g 14 (g 0 13).toInt.toNat x) 0 13 y 14 j = upd2 g 14 (g 0 13).toInt.toNat x 14 j := fun y => upd2_nk (by decide)
    have n2 : ∀ y : Int32, upd2 (upd2 gm 13 (gm 0 18).toInt.toNat x) 0 18 y 13 j = upd2 gm 13 (gm 0 18).toInt.toNat x 13 j := fun y => upd2_nk (by decide)
    rw [n1, n2, h.1]
    by_cases e : j = (gm 0 18).toInt.toNat
    · subst e; rw [upd2_at, upd2_at]
    · rw [upd2_nj e, upd2_nj e]; exact h.2 j (by omega)
theorem put_lay {fu : Nat} (hfu : 1180591620717411303424 ≤ fu) {g gm : gT} {L Lm : lT} {v : Int32} (h : TP g gm) (h0 : 0 ≤ (gm 0 18).toInt) (h1 : (gm 0 18).toInt ≤ 696) : ∃ g1 gm1, fX11_put_0 fu v g L = some ((), (g1, L)) ∧ fX12_lays fu v gm Lm = some ((), (gm1, Lm)) ∧ TP g1 gm1 ∧ (gm1 0 18).toInt = (gm 0 18).toInt + 4 := by
  obtain ⟨f, rfl⟩ : ∃ f, fu = f + 5 := ⟨fu - 5, by omega⟩
  have eP : ∀ (m : Nat) (v2 : Int32) (g : gT), whileK (fun k v' => fX11_put_0_s3 (f + 5) v k v'.1 v'.2.1 v'.2.2) (m + 1) (v2, g, L) = fX11_put_0_s3 (f + 5) v (whileK (fun k v' => fX11_put_0_s3 (f + 5) v k v'.1 v'.2.1 v'.2.2) m) v2 g L := fun _ _ _ => rfl
  have eL : ∀ (m : Nat) (v2 : Int32) (g : gT), whileK (fun k v' => fX12_lays_s3 (f + 5) v k v'.1 v'.2.1 v'.2.2) (m + 1) (v2, g, Lm) = fX12_lays_s3 (f + 5) v (whileK (fun k v' => fX12_lays_s3 (f + 5) v k v'.1 v'.2.1 v'.2.2) m) v2 g Lm := fun _ _ _ => rfl
  unfold fX11_put_0 fX11_put_0_l3 fX12_lays fX12_lays_l3
  have x0 : (g 0 13).toInt = (gm 0 18).toInt := by rw [h.1]
  rw [eP (f + 4) 24 g, put_step (by omega) (by omega) (by decide), eL (f + 4) 24 gm, lay_step (by omega) (by omega) (by decide), byte_eq v 24 (Or.inl rfl)]
  obtain ⟨t1, c1⟩ := tp_step (x := (((v : Int32) >>> ((24 : Int32) &&& 31) : Int32) &&& 255)) h h0 (by omega)
  generalize upd2 (upd2 g 14 (g 0 13).toInt.toNat (((v : Int32) >>> ((24 : Int32) &&& 31) : Int32) &&& 255)) 0 13 (g 0 13 + 1) = ga at t1 ⊢
  generalize upd2 (upd2 gm 13 (gm 0 18).toInt.toNat (((v : Int32) >>> ((24 : Int32) &&& 31) : Int32) &&& 255)) 0 18 (gm 0 18 + 1) = gma at t1 c1 ⊢
  have x1 : (ga 0 13).toInt = (gma 0 18).toInt := by rw [t1.1]
  rw [show (24 : Int32) + -8 = 16 from rfl]
  rw [eP (f + 3) 16 ga, put_step (by omega) (by omega) (by decide), eL (f + 3) 16 gma, lay_step (by omega) (by omega) (by decide), byte_eq v 16 (Or.inr (Or.inl rfl))]
  obtain ⟨t2, c2⟩ := tp_step (x := (((v : Int32) >>> ((16 : Int32) &&& 31) : Int32) &&& 255)) t1 (by omega) (by omega)
  generalize upd2 (upd2 ga 14 (ga 0 13).toInt.toNat (((v : Int32) >>> ((16 : Int32) &&& 31) : Int32) &&& 255)) 0 13 (ga 0 13 + 1) = gb at t2 ⊢
  generalize upd2 (upd2 gma 13 (gma 0 18).toInt.toNat (((v : Int32) >>> ((16 : Int32) &&& 31) : Int32) &&& 255)) 0 18 (gma 0 18 + 1) = gmb at t2 c2 ⊢
  have x2 : (gb 0 13).toInt = (gmb 0 18).toInt := by rw [t2.1]
  rw [show (16 : Int32) + -8 = 8 from rfl]
  rw [eP (f + 2) 8 gb, put_step (by omega) (by omega) (by decide), eL (f + 2) 8 gmb, lay_step (by omega) (by omega) (by decide), byte_eq v 8 (Or.inr (Or.inr (Or.inl rfl)))]
  obtain ⟨t3, c3⟩ := tp_step (x := (((v : Int32) >>> ((8 : Int32) &&& 31) : Int32) &&& 255)) t2 (by omega) (by omega)
  generalize upd2 (upd2 gb 14 (gb 0 13).toInt.toNat (((v : Int32) >>> ((8 : Int32) &&& 31) : Int32) &&& 255)) 0 13 (gb 0 13 + 1) = gc at t3 ⊢
  generalize upd2 (upd2 gmb 13 (gmb 0 18).toInt.toNat (((v : Int32) >>> ((8 : Int32) &&& 31) : Int32) &&& 255)) 0 18 (gmb 0 18 + 1) = gmc at t3 c3 ⊢
  have x3 : (gc 0 13).toInt = (gmc 0 18).toInt := by rw [t3.1]
  rw [show (8 : Int32) + -8 = 0 from rfl]
  rw [eP (f + 1) 0 gc, put_step (by omega) (by omega) (by decide), eL (f + 1) 0 gmc, lay_step (by omega) (by omega) (by decide), byte_eq v 0 (Or.inr (Or.inr (Or.inr rfl)))]
  obtain ⟨t4, c4⟩ := tp_step (x := (((v : Int32) >>> ((0 : Int32) &&& 31) : Int32) &&& 255)) t3 (by omega) (by omega)
  generalize upd2 (upd2 gc 14 (gc 0 13).toInt.toNat (((v : Int32) >>> ((0 : Int32) &&& 31) : Int32) &&& 255)) 0 13 (gc 0 13 + 1) = gd at t4 ⊢
  generalize upd2 (upd2 gmc 13 (gmc 0 18).toInt.toNat (((v : Int32) >>> ((0 : Int32) &&& 31) : Int32) &&& 255)) 0 18 (gmc 0 18 + 1) = gmd at t4 c4 ⊢
  rw [show (0 : Int32) + -8 = -8 from rfl]
  refine ⟨gd, gmd, ?_, ?_, t4, by omega⟩
  · rw [eP f (-8) gd]; unfold fX11_put_0_s3; rw [if_pos (by decide)]
  · rw [eL f (-8) gmd]; unfold fX12_lays_s3; rw [if_pos (by decide)]
theorem tp_00 {g gm : gT} {x : Int32} (h : TP g gm) : TP g (upd2 gm 0 0 x) := h
theorem feed_tp {fu : Nat} (hfu : 1180591620717411303424 ≤ fu) {g gm : gT} {L Lm : lT} {p1 p2 p3 p4 p5 : Int32} (hI : zI MT gm) (h : TP g gm) : ∃ r g1 gm1, fX11_feed_0 fu p1 p2 p3 p4 p5 g L = some (r, (g1, L)) ∧ fX12_feed fu p1 p2 p3 p4 p5 gm Lm = some (r, (gm1, Lm)) ∧ TP g1 gm1 := by
  have q18 := hI 0 18 0 700 rfl
  have ew : (gm 0 18 + 20).toInt = (gm 0 18).toInt + 20 := ic_addc rfl (by decide) (by omega) (by omega)
  have h' := tp_00 (x := 0) h
  unfold fX11_feed_0 fX12_feed
  by_cases c : gm 0 18 + 20 ≤ 700
  · have c' := icc_le (m := (gm 0 18 + 20).toInt) (n := 700) rfl (by decide) c
    have e18 : (upd2 gm 0 0 0 0 18).toInt = (gm 0 18).toInt := rfl
    obtain ⟨a1, b1, e1, f1, t1, c1⟩ := put_lay hfu (L := L) (Lm := Lm) (v := p1) h' (by omega) (by omega)
    obtain ⟨a2, b2, e2, f2, t2, c2⟩ := put_lay hfu (L := L) (Lm := Lm) (v := p2) t1 (by omega) (by omega)
    obtain ⟨a3, b3, e3, f3, t3, c3⟩ := put_lay hfu (L := L) (Lm := Lm) (v := p3) t2 (by omega) (by omega)
    obtain ⟨a4, b4, e4, f4, t4, c4⟩ := put_lay hfu (L := L) (Lm := Lm) (v := p4) t3 (by omega) (by omega)
    obtain ⟨a5, b5, e5, f5, t5, c5⟩ := put_lay hfu (L := L) (Lm := Lm) (v := p5) t4 (by omega) (by omega)
    refine ⟨b5 0 18, a5, b5, ?_, ?_, t5⟩
    · rw [h.1, if_pos c]
      refine q_cb e1 (q_cb e2 (q_cb e3 (q_cb e4 (q_cb e5 ?_))))
      rw [t5.1]
    · show (if gm 0 18 + 20 ≤ 700 then _ else _) = _
      rw [if_pos c]
      exact q_cb f1 (q_cb f2 (q_cb f3 (q_cb f4 (q_cb f5 rfl))))
  · refine ⟨-1, g, upd2 gm 0 0 0, ?_, ?_, h'⟩
    · rw [h.1, if_neg c]
    · show (if gm 0 18 + 20 ≤ 700 then _ else _) = _
      rw [if_neg c]
end
section
/-! ===== the class's house ===== -/
/-- the plan of the class -/
def pX (b : Nat → Int32) (n : Nat) (t : tS) (D : dT) (g : gT) : Prop := (∀ i, i < t.1 → LX b n (D.1 i) (57 + i) g) ∧ (g 1 3).toInt = D.2.2.1 ∧ (g 1 4).toInt = D.2.2.2 ∧ RX b n t.2.1 D.2.1 (g 3 4).toInt (g 20) (g 19)
/-- what is held begins as the plan tells -/
def hX (m : Int) (g : gT) : Prop := ∀ i : Nat, (i : Int) < m → g 25 i = g (57 + i) 6 ∧ g 26 i = g (57 + i) 13 ∧ g 27 i = g (57 + i) 7 ∧ g 28 i = g (57 + i) 11
/-- what the class's house comes to -/
def HX (b : Nat → Int32) (n : Nat) (D : dT) (g0 : gT) (r : Except Nat tS) (g1 : gT) : Prop := match r with
  | .error p => (g1 0 14).toInt = (p : Int) ∧ (∀ k, (k < 69 ∨ 81 ≤ k ∧ k < 93) → k ∉ [0, 2, 4, 5, 15, 22, 23] → g1 k = g0 k) ∧ (∀ j, j ∉ [13, 14] → g1 0 j = g0 0 j) ∧ g1 15 = upd (g0 15) 0 (g0 15 0 + 1) ∧ g1 23 0 = 0
  | .ok t => (g1 0 14).toInt = -1 ∧ g1 0 15 = 0 ∧ (g1 1 2).toInt = (t.1 : Int) ∧ (g1 3 3).toInt = (t.2.1 : Int) ∧ g1 6 9 = 0 ∧ g1 6 10 = 0 ∧ g1 6 11 = -1 ∧ g1 0 16 = 0 ∧ g1 7 = g0 7 ∧ g1 15 = g0 15 ∧ (∀ k, 34 ≤ k → k ≤ 42 → g1 k = g0 k) ∧ g1 20 0 = 0 ∧ g1 23 0 = g0 20 0 ∧ pX b n t D g1 ∧ hX (t.1 : Int) g1 ∧ g1 8 = g0 8
theorem l_house {fu : Nat} (hfu : 1180591620717411303424 ≤ fu) {b : Nat → Int32} {n : Nat} {p1 : Int32} {g0 : gT} {L0 : lT} (hI : zI XT g0) (hn : p1.toInt = (n : Int)) (h13 : p1.toInt ≤ (g0 0 13).toInt) (hb : ∀ j, j < n → g0 14 j = b j) (h23 : g0 23 0 = 0) : Ex (fX11_house_0 fu p1 g0 L0) (fun (r : Except String Int32) g1 L1 => HX b n (hoD b n 702 (0, 0, false, false) D0 (sk b n 0)) g0 (hoS b n 702 (0, 0, false, false) (sk b n 0)) g1) := by
  have q13 := hI 0 13 0 700 rfl
  unfold fX11_house_0
  refine Ex.ite (fun c => by have := icc_lt (m := p1.toInt) (n := 0) rfl (by decide) c; omega) (fun _ => ?_)
  refine Ex.ite (fun _ => ?_) (fun c => by have := icc_nle (m := p1.toInt) (n := (g0 0 13).toInt) rfl rfl c; omega)
  refine Ex.sti (hI.upd (lo := 0) (hi := 700) rfl (by decide) (by decide)) (fun g3 g3e i3 => ?_)
  have b3 : ∀ j, j < n → g3 14 j = b j := fun j hj => by rw [g3e]; exact hb j hj
  have z23 : g3 23 0 = 0 := by rw [g3e]; exact h23
  refine Ex.cb (l_read hfu i3 hn (by omega) b3 (by rw [z23]; rfl)) (fun _ g5 L5 hq => ?_)
  obtain ⟨⟨h1, w23⟩, h2, h3⟩ := hq
  rw [z23] at w23
  have e0 : g5 0 = g3 0 := h1 0 (by decide) (by decide)
  generalize hoS b n 702 (0, 0, false, false) (sk b n 0) = R at h3 ⊢
  generalize hoD b n 702 (0, 0, false, false) D0 (sk b n 0) = DD at h3 ⊢
  refine Ex.sti (h2.updN rfl) (fun g8 g8e i8 => ?_)
  have x14 : g8 0 14 = g5 5 8 := by rw [g8e]; exact upd2_at
  have x57 : g8 5 7 = g5 5 7 := by rw [g8e]; rfl
  have g8k : ∀ k, k ≠ 0 → g8 k = g5 k := fun k hk => by rw [g8e]; exact funext fun i => upd2_nk hk
  have f8 : ∀ k, (k < 69 ∨ 81 ≤ k ∧ k < 93) → k ∉ [0, 2, 4, 5, 22, 23] → g8 k = g0 k := by
    intro k hk hm
    have n0 : k ≠ 0 := fun e => hm (by rw [e]; decide)
    have e8 : g8 k = g5 k := by rw [g8e]; exact funext fun i => upd2_nk n0
    have e3 : g3 k = g0 k := by rw [g3e]; exact funext fun i => upd2_nk n0
    rw [e8, h1 k hk (fun h => hm (List.mem_cons_of_mem _ h)), e3]
  have f0 : ∀ j, j ∉ [13, 14] → g8 0 j = g0 0 j := by
    intro j hj
    have n13 : j ≠ 13 := fun e => hj (by rw [e]; decide)
    have n14 : j ≠ 14 := fun e => hj (by rw [e]; decide)
    rw [g8e, upd2_nj n14, e0, g3e, upd2_nj n13]
  have q2 : g8 2 = g5 2 := by rw [g8e]; exact funext fun i => upd2_nk (by decide)
  have q4 : g8 4 = g5 4 := by rw [g8e]; exact funext fun i => upd2_nk (by decide)
  rw [x57]
  cases R with
  | error p =>
    have h3 : (g5 5 7).toInt ≠ 0 ∧ (g5 5 8).toInt = (p : Int) := h3
    refine Ex.ite (fun c => absurd (icc_eq (m := (g5 5 7).toInt) (n := 0) rfl (by decide) c) h3.1) (fun _ => ?_)
    refine Ex.ck (by decide) (by decide) (Ex.ck (by decide) (by decide) ?_)
    have e15 : g8 15 = g0 15 := f8 15 (by decide) (by decide)
    refine e_st (fun g18 g18e => Ex.ret ⟨?_, fun k hk hm => ?_, fun j hj => ?_, ?_, ?_⟩)
    · rw [g18e]; show (g8 0 14).toInt = _; rw [x14]; exact h3.2
    · have n15 : k ≠ 15 := fun e => hm (by rw [e]; decide)
      have e8 : g18 k = g8 k := by rw [g18e]; exact funext fun i => upd2_nk n15
      rw [e8]
      refine f8 k hk (fun h => hm ?_)
      revert h
      generalize k = k'
      simp only [List.mem_cons, List.not_mem_nil, or_false]
      omega
    · rw [g18e, upd2_nk (by decide)]; exact f0 j hj
    · rw [g18e, upd2_k, e15]; rfl
    · rw [g18e, upd2_nk (by decide), g8k 23 (by decide)]; exact w23
  | ok u =>
    have h3 : (g5 5 7).toInt = 0 ∧ (g5 5 8).toInt = -1 ∧ (g5 2 2).toInt = (u.1 : Int) ∧ (g5 4 3).toInt = (u.2.1 : Int) ∧ dX b n u DD g5 := h3
    refine Ex.ite (fun _ => ?_) (fun c => absurd h3.1 (icc_neq (m := (g5 5 7).toInt) (n := 0) rfl (by decide) c))
    refine Ex.swp ?_
    have hI2 : zI XT (fun k => g8 (sg k)) := fun k j lo hi h => i8 (sg k) j lo hi ((xt_sg k j).trans h)
    have q12 : 0 ≤ ((fun k => g8 (sg k)) 1 2).toInt ∧ ((fun k => g8 (sg k)) 1 2).toInt ≤ 12 := hI2 1 2 0 12 rfl
    have y9 : Pc (fX3_start_6_1 fu (fun k => g8 (sg k)) (fun k => L5 (sg k))) (fun _ g1 _ => (g1 6 9 = 0 ∧ g1 6 10 = 0 ∧ g1 6 11 = -1) ∧ hX ((fun k => g8 (sg k)) 1 2).toInt g1) := by
      generalize hG : (fun k => g8 (sg k)) = G at q12 ⊢
      generalize (fun k => L5 (sg k)) = LL
      unfold fX3_start_6_1 fX3_start_6_1_l2
      refine pc_loop (fun v => (0 ≤ v.1.toInt ∧ v.1.toInt ≤ (G 1 2).toInt) ∧ v.2.1 1 2 = G 1 2 ∧ hX v.1.toInt v.2.1) (fun k hk v hv => ?_) ⟨(show 0 ≤ (0 : Int32).toInt ∧ (0 : Int32).toInt ≤ (G 1 2).toInt from ⟨by decide, q12.1⟩), rfl, fun i hi => absurd (show (i : Int) < 0 from hi) (by omega)⟩
      obtain ⟨v2, g', L'⟩ := v
      obtain ⟨hv, h12, hx⟩ := hv
      replace hv : 0 ≤ v2.toInt ∧ v2.toInt ≤ (G 1 2).toInt := hv
      replace h12 : g' 1 2 = G 1 2 := h12
      replace hx : hX v2.toInt g' := hx
      show Pc (fX3_start_6_1_s2 fu k v2 g' L') _
      unfold fX3_start_6_1_s2
      refine pc_ite (fun c => ?_) (fun c => ?_)
      · have c := icc_le (m := (g' 1 2).toInt) (n := v2.toInt) rfl rfl c
        rw [h12] at c
        refine pc_st (fun ga ea => pc_st (fun gb eb => pc_st (fun gc ec => pc_some ⟨⟨by rw [ec, eb, ea]; rfl, by rw [ec, eb]; rfl, by rw [ec]; rfl⟩, fun i hi => ?_⟩)))
        have nk : ∀ q, q ≠ 6 → gc q = g' q := fun q hq => by rw [ec, eb, ea]; exact funext fun j => by rw [upd2_nk hq, upd2_nk hq, upd2_nk hq]
        rw [nk 25 (by decide), nk 26 (by decide), nk 27 (by decide), nk 28 (by decide), nk (57 + i) (by omega)]
        exact hx i (by omega)
      · have c := icc_nle (m := (g' 1 2).toInt) (n := v2.toInt) rfl rfl c
        rw [h12] at c
        have eN : v2.toNatClampNeg = v2.toInt.toNat := by rw [nc]
        have eN12 : v2.toNatClampNeg % 12 = v2.toInt.toNat := by rw [eN]; omega
        refine pc_ck (fun _ _ => pc_ltn (fun q eq => pc_ck (fun _ _ => pc_st (fun ga ea => pc_ck (fun _ _ => pc_st (fun gb eb => pc_ck (fun _ _ => pc_st (fun gc ec => pc_ck (fun _ _ => pc_st (fun gd ed => hk _ ?_))))))))))
        rw [eN12] at eq
        rw [eN] at ea eb ec ed
        have ew : (v2 + 1).toInt = v2.toInt + 1 := ic_addc rfl (by decide) (by omega) (by omega)
        have nk : ∀ p, p ≠ 25 → p ≠ 26 → p ≠ 27 → p ≠ 28 → gd p = g' p := fun p h1 h2 h3 h4 => by rw [ed, ec, eb, ea]; exact funext fun j => by rw [upd2_nk h4, upd2_nk h3, upd2_nk h2, upd2_nk h1]
        refine ⟨(show 0 ≤ (v2 + 1).toInt ∧ (v2 + 1).toInt ≤ (G 1 2).toInt by omega), by show gd 1 2 = G 1 2; rw [nk 1 (by decide) (by decide) (by decide) (by decide)]; exact h12, fun i hi => ?_⟩
        replace hi : (i : Int) < (v2 + 1).toInt := hi
        show gd 25 i = gd (57 + i) 6 ∧ gd 26 i = gd (57 + i) 13 ∧ gd 27 i = gd (57 + i) 7 ∧ gd 28 i = gd (57 + i) 11
        rw [nk (57 + i) (by omega) (by omega) (by omega) (by omega)]
        have a1 : ga q = g' q := by rw [ea]; exact funext fun j => upd2_nk (by omega)
        have b1 : gb q = g' q := by rw [eb, ← a1]; exact funext fun j => upd2_nk (by omega)
        have c1 : gc q = g' q := by rw [ec, ← b1]; exact funext fun j => upd2_nk (by omega)
        by_cases ei : i = v2.toInt.toNat
        · have eqi : 57 + i = q := by omega
          rw [eqi]
          refine ⟨?_, ?_, ?_, ?_⟩
          · rw [ed, upd2_nk (by decide), ec, upd2_nk (by decide), eb, upd2_nk (by decide), ea, ei, upd2_at]
          · rw [ed, upd2_nk (by decide), ec, upd2_nk (by decide), eb, ei, upd2_at, a1]
          · rw [ed, upd2_nk (by decide), ec, ei, upd2_at, b1]
          · rw [ed, ei, upd2_at, c1]
        · obtain ⟨x1, x2, x3, x4⟩ := hx i (by omega)
          refine ⟨?_, ?_, ?_, ?_⟩
          · rw [ed, upd2_nk (by decide), ec, upd2_nk (by decide), eb, upd2_nk (by decide), ea, upd2_nj ei]; exact x1
          · rw [ed, upd2_nk (by decide), ec, upd2_nk (by decide), eb, upd2_nj ei, ea, upd2_nk (by decide)]; exact x2
          · rw [ed, upd2_nk (by decide), ec, upd2_nj ei, eb, upd2_nk (by decide), ea, upd2_nk (by decide)]; exact x3
          · rw [ed, upd2_nj ei, ec, upd2_nk (by decide), eb, upd2_nk (by decide), ea, upd2_nk (by decide)]; exact x4
    have yf := pc_kp (w_fX3_start_6_1 (fun k => g8 (sg k)) fu (fun k => g8 (sg k)) (fun k => L5 (sg k)) FW.refl)
    obtain ⟨x12, g13, L14, e12, -⟩ := sX3_start_6_1 fu hfu _ (fun k => L5 (sg k)) hI2
    refine Ex.cb (P := fun (_ : Unit) gz Lz => ((gz 6 9 = 0 ∧ gz 6 10 = 0 ∧ gz 6 11 = -1) ∧ hX ((fun k => g8 (sg k)) 1 2).toInt gz) ∧ FW wA_fX3_start_6_1 wB_fX3_start_6_1 (fun k => g8 (sg k)) gz) ⟨x12, g13, L14, e12, y9 _ _ _ e12, yf _ _ _ e12⟩ (fun _ g13 L14 hz => ?_)
    clear e12 y9 yf
    obtain ⟨⟨⟨z1, z2, z3⟩, zh⟩, hw⟩ := hz
    refine e_st (fun g16 g16e => ?_)
    refine e_st (fun g17 g17e => ?_)
    have f17 : ∀ k, k ≠ 0 → g17 k = g13 k := fun k hk => by rw [g17e, g16e]; exact funext fun i => (upd2_nk hk).trans (upd2_nk hk)
    refine Ex.ret ⟨?_, ?_, ?_, ?_, ?_, ?_, ?_, ?_, ?_, ?_, fun k k1 k2 => ?_, ?_, ?_, ?_, ?_, ?_⟩
    · rw [g17e, g16e]; show (g13 0 14).toInt = -1
      rw [hw 0 14 (by decide) (by decide)]
      show (g8 0 14).toInt = -1
      rw [x14]; exact h3.2.1
    · rw [g17e, g16e]; rfl
    · rw [f17 1 (by decide), hw 1 2 (by decide) (by decide)]
      show (g8 2 2).toInt = _
      rw [q2]; exact h3.2.2.1
    · rw [f17 3 (by decide), hw 3 3 (by decide) (by decide)]
      show (g8 4 3).toInt = _
      rw [q4]; exact h3.2.2.2.1
    · rw [f17 6 (by decide)]; exact z1
    · rw [f17 6 (by decide)]; exact z2
    · rw [f17 6 (by decide)]; exact z3
    · rw [g17e]; rfl
    · rw [f17 7 (by decide), hw.c (by decide) (by decide)]
      show g8 7 = g0 7
      exact f8 7 (by decide) (by decide)
    · rw [f17 15 (by decide), hw.c (by decide) (by decide)]
      show g8 15 = g0 15
      exact f8 15 (by decide) (by decide)
    · have hk : k ≠ 0 := by omega
      rw [f17 k hk]
      rcases (by omega : k = 34 ∨ k = 35 ∨ k = 36 ∨ k = 37 ∨ k = 38 ∨ k = 39 ∨ k = 40 ∨ k = 41 ∨ k = 42) with rfl | rfl | rfl | rfl | rfl | rfl | rfl | rfl | rfl
      all_goals (rw [hw.c (by decide) (by decide)]; exact f8 _ (by decide) (by decide))
    · rw [f17 20 (by decide), hw 20 0 (by decide) (by decide)]
      show g8 23 0 = 0
      rw [g8k 23 (by decide)]; exact w23
    · rw [f17 23 (by decide), hw 23 0 (by decide) (by decide)]
      show g8 20 0 = g0 20 0
      rw [f8 20 (by decide) (by decide)]
    · obtain ⟨y1, y2, y3, y4⟩ := h3.2.2.2.2
      have hu12 : u.1 ≤ 12 := by
        have := h2 2 2 0 12 rfl
        have := h3.2.2.1
        omega
      have fk : ∀ k, k ≠ 0 → k ∉ wB_fX3_start_6_1 → (k ∉ wA_fX3_start_6_1.map Prod.fst) → g17 k = g8 (sg k) := fun k h0 hB hA => by
        rw [f17 k h0, hw.c hB hA]
      refine ⟨fun i hi => ?_, ?_, ?_, ?_⟩
      · have s1 : sg (57 + i) = 69 + i := by unfold sg; rw [if_neg (by omega), if_pos (by omega)]; omega
        have s2 : sg (57 + i + 24) = 69 + i + 24 := by unfold sg; rw [if_neg (by omega), if_neg (by omega), if_neg (by omega), if_pos (by omega)]; omega
        have m1 : ∀ k, 57 ≤ k → k ∉ wB_fX3_start_6_1 ∧ k ∉ wA_fX3_start_6_1.map Prod.fst := fun k hk => by
          constructor
          · simp only [List.mem_cons, List.not_mem_nil, or_false]; omega
          · simp only [List.map_cons, List.map_nil, List.mem_cons, List.not_mem_nil, or_false]; omega
        have e1 : g17 (57 + i) = g5 (69 + i) := by rw [fk _ (by omega) (m1 _ (by omega)).1 (m1 _ (by omega)).2, s1, g8k _ (by omega)]
        have e2 : g17 (57 + i + 24) = g5 (69 + i + 24) := by rw [fk _ (by omega) (m1 _ (by omega)).1 (m1 _ (by omega)).2, s2, g8k _ (by omega)]
        have hL := y1 i hi
        refine ⟨fun j a c => by rw [e1]; exact hL.1 j a c, ?_, ?_, fun j hj => ?_⟩
        · rw [e1]; exact hL.2.1
        · rw [e1]; exact hL.2.2.1
        · rw [e2]; exact hL.2.2.2 j hj
      · rw [fk 1 (by decide) (by decide) (by decide)]
        show (g8 2 3).toInt = _
        rw [q2]; exact y2
      · rw [fk 1 (by decide) (by decide) (by decide)]
        show (g8 2 4).toInt = _
        rw [q2]; exact y3
      · rw [fk 3 (by decide) (by decide) (by decide), fk 20 (by decide) (by decide) (by decide), fk 19 (by decide) (by decide) (by decide)]
        show RX b n u.2.1 DD.2.1 (g8 4 4).toInt (g8 23) (g8 22)
        rw [q4, g8k 23 (by decide), g8k 22 (by decide)]; exact y4
    · have e12 : ((fun k => g8 (sg k)) 1 2).toInt = (u.1 : Int) := by
        show (g8 2 2).toInt = _
        rw [q2]; exact h3.2.2.1
      rw [e12] at zh
      intro i hi
      have := zh i hi
      rw [f17 25 (by decide), f17 26 (by decide), f17 27 (by decide), f17 28 (by decide), f17 (57 + i) (by omega)]
      exact this
    · rw [f17 8 (by decide), hw.c (by decide) (by decide)]
      show g8 8 = g0 8
      exact f8 8 (by decide) (by decide)
end
section
/-! ===== small equations ===== -/
theorem right1 {fu : Nat} {g : gT} {L : lT} {w : Int32} (h : g 0 0 = 0) : fX12_right fu 1 w g L = some (1, (g, L)) := by
  unfold fX12_right
  rw [if_pos h, if_neg (by decide)]
  unfold fX12_right_p16 fX12_right_p28
  rw [ckb0, ckb1, if_pos h]
theorem right0 {fu : Nat} {g : gT} {L : lT} {w : Int32} (h : g 0 0 = 0) (hw : ¬ w = 0) : fX12_right fu 0 w g L = some (0, (upd2 g 0 0 w, L)) := by
  unfold fX12_right
  rw [if_pos h, if_pos rfl]
  show fX12_right_p16 fu (upd2 g 0 0 w) L = _
  unfold fX12_right_p16 fX12_right_p28
  rw [ckb0, ckb1, if_neg (by rw [upd2_at]; exact hw)]
theorem within1 {fu : Nat} {g : gT} {L : lT} {p lo hi : Int32} (h1 : lo.toInt ≤ p.toInt) (h2 : p.toInt ≤ hi.toInt) : fX12_within fu p lo hi g L = some (1, (g, L)) := by
  unfold fX12_within fX12_within_p15
  rw [ckb1, if_neg (fun h => by have := icc_lt (m := p.toInt) (n := lo.toInt) rfl rfl h; omega), if_neg (fun h => by have := icc_lt (m := hi.toInt) (n := p.toInt) rfl rfl h; omega)]
theorem within0 {fu : Nat} {g : gT} {L : lT} {p lo hi : Int32} (h : ¬ (lo.toInt ≤ p.toInt ∧ p.toInt ≤ hi.toInt)) : fX12_within fu p lo hi g L = some (0, (g, L)) := by
  unfold fX12_within fX12_within_p15 fX12_within_p14 fX12_within_p15
  rw [ckb0, ckb1]
  by_cases c : p < lo
  · rw [if_pos c]
  · rw [if_neg c]
    have c := icc_nlt (m := p.toInt) (n := lo.toInt) rfl rfl c
    rw [if_pos (Int32.lt_iff_toInt_lt.mpr (by omega))]
/-- the lesson that is asked for is one -/
def isL (n p : Int32) : Prop := 0 ≤ p.toInt ∧ p.toInt < n.toInt
theorem lesson1 {fu : Nat} {g : gT} {L : lT} {p : Int32} (h0 : g 0 0 = 0) (h : isL (g 0 1) p) : fX12_isLesson fu p g L = some (1, (g, L)) := by
  unfold fX12_isLesson fX12_isLesson_p18
  rw [if_neg (fun c => by have := icc_lt (m := p.toInt) (n := 0) rfl (by decide) c; have := h.1; omega), if_neg (fun c => by have := icc_le (m := (g 0 1).toInt) (n := p.toInt) rfl rfl c; have := h.2; omega)]
  exact q_cb (right1 h0) (by rw [ckb1])
theorem lesson0 {fu : Nat} {g : gT} {L : lT} {p : Int32} (h0 : g 0 0 = 0) (h : ¬ isL (g 0 1) p) : fX12_isLesson fu p g L = some (0, (upd2 g 0 0 1, L)) := by
  unfold fX12_isLesson fX12_isLesson_p17 fX12_isLesson_p18
  have k : ∀ (A : Option (Int32 × zS)), A = cb (fX12_right fu 0 1 g L) (fun x1 g2 L3 => ckb x1 (some (x1, (g2, L3)))) → A = some (0, (upd2 g 0 0 1, L)) := fun A e => by rw [e]; exact q_cb (right0 h0 (by decide)) (by rw [ckb0])
  by_cases c : p < 0
  · rw [if_pos c]; exact k _ rfl
  · rw [if_neg c]
    have c := icc_nlt (m := p.toInt) (n := 0) rfl (by decide) c
    rw [if_pos (Int32.le_iff_toInt_le.mpr (by
      by_cases d : (g 0 1).toInt ≤ p.toInt
      · exact d
      · exact absurd ⟨c, by omega⟩ h))]
    exact k _ rfl
theorem what1 {fu : Nat} {g : gT} {L : lT} {p hi : Int32} (h0 : g 0 0 = 0) (h1 : 0 ≤ p.toInt) (h2 : p.toInt ≤ hi.toInt) : fX12_isWhat fu p hi g L = some (1, (g, L)) := by
  unfold fX12_isWhat
  exact q_cb (within1 (lo := 0) h1 h2) (q_cb (right1 h0) (by rw [ckb1]))
theorem what0 {fu : Nat} {g : gT} {L : lT} {p hi : Int32} (h0 : g 0 0 = 0) (h : ¬ (0 ≤ p.toInt ∧ p.toInt ≤ hi.toInt)) : fX12_isWhat fu p hi g L = some (0, (upd2 g 0 0 1, L)) := by
  unfold fX12_isWhat
  exact q_cb (within0 (lo := 0) h) (q_cb (right0 h0 (by decide)) (by rw [ckb0]))
/-- the class asks for a lesson, for a what -/
theorem xneed1 {fu : Nat} {g : gT} {L : lT} {p : Int32} (h : isL (g 1 2) p) : fX11_needLesson_0 fu p g L = some (.ok (), (g, L)) := by
  unfold fX11_needLesson_0
  rw [if_neg (fun c => by have := icc_lt (m := p.toInt) (n := 0) rfl (by decide) c; have := h.1; omega), if_pos (Int32.lt_iff_toInt_lt.mpr h.2)]
theorem xneed0 {fu : Nat} {g : gT} {L : lT} {p : Int32} (h : ¬ isL (g 1 2) p) : fX11_needLesson_0 fu p g L = some (.error "java/util/NoSuchElementException", (g, L)) := by
  unfold fX11_needLesson_0 fX11_needLesson_0_p15
  by_cases c : p < 0
  · rw [if_pos c]
  · rw [if_neg c]
    have c := icc_nlt (m := p.toInt) (n := 0) rfl (by decide) c
    rw [if_neg (fun d => h ⟨c, icc_lt (m := p.toInt) (n := (g 1 2).toInt) rfl rfl d⟩)]
theorem xwhat1 {fu : Nat} {g : gT} {L : lT} {p hi : Int32} (h1 : 0 ≤ p.toInt) (h2 : p.toInt < hi.toInt) : fX11_needWhat fu p hi g L = some (.ok (), (g, L)) := by
  unfold fX11_needWhat
  rw [if_neg (fun c => by have := icc_lt (m := p.toInt) (n := 0) rfl (by decide) c; omega), if_pos (Int32.lt_iff_toInt_lt.mpr h2)]
theorem xwhat0 {fu : Nat} {g : gT} {L : lT} {p hi : Int32} (h : ¬ (0 ≤ p.toInt ∧ p.toInt < hi.toInt)) : fX11_needWhat fu p hi g L = some (.error "java/util/NoSuchElementException", (g, L)) := by
  unfold fX11_needWhat fX11_needWhat_p9
  by_cases c : p < 0
  · rw [if_pos c]
  · rw [if_neg c]
    have c := icc_nlt (m := p.toInt) (n := 0) rfl (by decide) c
    rw [if_neg (fun d => h ⟨c, icc_lt (m := p.toInt) (n := hi.toInt) rfl rfl d⟩)]
section QX
variable {β γ : Type} {R : Option (Except String γ × zS)} {g : gT} {L : lT}
theorem q_xo {m : Option (Except String β × zS)} {K : β → gT → lT → Option (Except String γ × zS)} {x : β} (e : m = some (.ok x, (g, L))) (h : K x g L = R) : cbx m K = R := by rw [e]; exact h
theorem q_xe {m : Option (Except String β × zS)} {K : β → gT → lT → Option (Except String γ × zS)} {E : String} (e : m = some (.error E, (g, L))) (h : some (.error E, (g, L)) = R) : cbx m K = R := by rw [e]; exact h
end QX
/-- acts are counted up to 40 -/
def bmp (c : Int) : Int := if c < 40 then c + 1 else 40
theorem keepAct_n {fu : Nat} {p1 p2 p3 : Int32} {g : gT} {L : lT} (h0 : 0 ≤ (g 6 9).toInt) (h4 : (g 6 9).toInt ≤ 40) : Pc (fX3_keepAct_6 fu p1 p2 p3 g L) (fun _ g1 _ => (g1 6 9).toInt = bmp (g 6 9).toInt) := by
  have P13 : ∀ (g' : gT) (L' : lT), 0 ≤ (g' 6 9).toInt → (g' 6 9).toInt < 40 → Pc (fX3_keepAct_6_p13 fu p1 p2 p3 g' L') (fun _ g1 _ => (g1 6 9).toInt = (g' 6 9).toInt + 1) := by
    intro g' L' h0 h4
    unfold fX3_keepAct_6_p13
    refine pc_ck (fun _ _ => pc_st (fun ga ea => pc_ck (fun _ _ => pc_st (fun gb eb => pc_ck (fun _ _ => pc_st (fun gc ec => pc_st (fun gd ed => pc_some ?_)))))))
    have e : gc 6 9 = g' 6 9 := by rw [ec, eb, ea]; rfl
    rw [ed, upd2_at, e]
    exact ic_addc rfl (by decide) (by omega) (by omega)
  unfold fX3_keepAct_6
  refine pc_ite (fun c => ?_) (fun c => ?_)
  · have c := icc_lt (m := (g 6 9).toInt) (n := 40) rfl (by decide) c
    refine pc_mo (P13 g L h0 c) (fun _ g1 _ e => ?_)
    rw [e]; unfold bmp; rw [if_pos c]
  · have c := icc_nlt (m := (g 6 9).toInt) (n := 40) rfl (by decide) c
    refine pc_cb (P := fun _ g1 _ => g1 6 9 = 39) ?_ (fun _ g1 L1 e => ?_)
    · unfold fX3_dropFirstAct_6
      exact pc_stA (fun ga ea => pc_stA (fun gb eb => pc_stA (fun gc ec => pc_st (fun gd ed => pc_some (by rw [ed]; exact upd2_at)))))
    · have e9 : (g1 6 9).toInt = 39 := by rw [e]; rfl
      refine pc_mo (P13 g1 L1 (by omega) (by omega)) (fun _ g2 _ e => ?_)
      rw [e]; unfold bmp; rw [if_neg (by omega)]; omega
theorem keeps_n {fu : Nat} {p1 p2 : Int32} {g : gT} {L : lT} (h0 : 0 ≤ (g 0 62).toInt) (h4 : (g 0 62).toInt ≤ 40) : Pc (fX12_keeps fu p1 p2 g L) (fun _ g1 _ => (g1 0 62).toInt = bmp (g 0 62).toInt) := by
  have P47 : ∀ (g' : gT) (L' : lT), 0 ≤ (g' 0 62).toInt → (g' 0 62).toInt < 40 → Pc (fX12_keeps_p47 fu p1 p2 g' L') (fun _ g1 _ => (g1 0 62).toInt = (g' 0 62).toInt + 1) := by
    intro g' L' h0 h4
    unfold fX12_keeps_p47
    refine pc_ck (fun _ _ => pc_st (fun ga ea => pc_ck (fun _ _ => pc_st (fun gb eb => pc_st (fun gd ed => pc_some ?_)))))
    have e : gb 0 62 = g' 0 62 := by rw [eb, ea]; rfl
    rw [ed, upd2_at, e]
    exact ic_addc rfl (by decide) (by omega) (by omega)
  unfold fX12_keeps
  refine pc_ite (fun c => ?_) (fun c => ?_)
  · have c := icc_eq (m := (g 0 62).toInt) (n := 40) rfl (by decide) c
    unfold fX12_keeps_l11
    refine pc_loop (fun v => v.2.1 0 62 = g 0 62) (fun k hk v hv => ?_) rfl
    obtain ⟨v3, g', L'⟩ := v
    have hv : g' 0 62 = g 0 62 := hv
    show Pc (fX12_keeps_s11 fu p1 p2 k v3 g' L') _
    unfold fX12_keeps_s11
    refine pc_ite (fun _ => ?_) (fun _ => ?_)
    · refine pc_st (fun ga ea => ?_)
      have e9 : (ga 0 62).toInt = 39 := by
        rw [ea, upd2_at, hv]
        rw [ic_subc (m := (g 0 62).toInt) (n := 1) rfl (by decide) (by omega) (by omega)]
        omega
      refine pc_mo (P47 ga L' (by omega) (by omega)) (fun _ g2 _ e => ?_)
      rw [e]; unfold bmp; rw [if_neg (by omega)]; omega
    · refine pc_ck (fun _ _ => pc_ck (fun _ _ => pc_st (fun ga ea => hk _ ?_)))
      show ga 0 62 = g 0 62
      rw [ea]; exact hv
  · have c := icc_neq (m := (g 0 62).toInt) (n := 40) rfl (by decide) c
    refine pc_mo (P47 g L h0 (by omega)) (fun _ g1 _ e => ?_)
    rw [e]; unfold bmp; rw [if_pos (by omega)]
end
section
/-! ===== the coupling ===== -/
/-- how many there are -/
def CC (g gm : gT) : Prop := g 1 2 = gm 0 1 ∧ g 3 3 = gm 0 2 ∧ g 6 9 = gm 0 62 ∧ g 6 10 = gm 0 73 ∧ (¬ gm 0 81 = 0 → g 7 9 = gm 0 83 ∧ g 7 10 = gm 0 84)
/-- the first bounds of the rules -/
def BZ (g : gT) : Prop := g 20 0 = 0 ∧ g 23 0 = 0
/-- the class and the reference, side by side -/
def CP (g gm : gT) : Prop := zI XT g ∧ zI MT gm ∧ mJ gm ∧ TP g gm ∧ g 0 14 = gm 0 20 ∧ g 0 15 = gm 0 81 ∧ CC g gm ∧ BZ g
/-- what is written leaves the cells fc and the fields ff alone -/
def okw (fc : List Nat) (ff : List (Nat × Nat)) (A : List (Nat × Nat)) (B : List Nat) : Bool := fc.all (fun k => !B.contains k && A.all (fun p => p.1 != k)) && ff.all (fun p => !B.contains p.1 && !A.contains p)
theorem okw_c {fc : List Nat} {ff : List (Nat × Nat)} {A : List (Nat × Nat)} {B : List Nat} {g g1 : gT} {k : Nat} (o : okw fc ff A B = true) (f : FW A B g g1) (hk : k ∈ fc) : g1 k = g k := by
  have o := List.all_eq_true.mp (Bool.and_eq_true_iff.mp o).1 k hk
  have o := Bool.and_eq_true_iff.mp o
  refine f.c (fun hB => ?_) (fun hA => ?_)
  · have := o.1
    rw [List.contains_iff_mem.mpr hB] at this
    exact nomatch this
  · obtain ⟨p, hp, e⟩ := List.mem_map.mp hA
    have := List.all_eq_true.mp o.2 p hp
    rw [e] at this
    simp at this
theorem okw_f {fc : List Nat} {ff : List (Nat × Nat)} {A : List (Nat × Nat)} {B : List Nat} {g g1 : gT} {k j : Nat} (o : okw fc ff A B = true) (f : FW A B g g1) (hk : (k, j) ∈ ff) : g1 k j = g k j := by
  have o := List.all_eq_true.mp (Bool.and_eq_true_iff.mp o).2 (k, j) hk
  have o := Bool.and_eq_true_iff.mp o
  refine f k j (fun hB => ?_) (fun hA => ?_)
  · have := o.1
    rw [List.contains_iff_mem.mpr hB] at this
    exact nomatch this
  · have := o.2
    rw [List.contains_iff_mem.mpr hA] at this
    exact nomatch this
abbrev okX0 (A : List (Nat × Nat)) (B : List Nat) : Prop := okw [14] [(0, 13), (0, 14), (0, 15), (1, 2), (3, 3), (7, 9), (7, 10), (20, 0), (23, 0)] A B = true
abbrev okM0 (A : List (Nat × Nat)) (B : List Nat) : Prop := okw [13] [(0, 18), (0, 20), (0, 81), (0, 1), (0, 2), (0, 83), (0, 84)] A B = true
abbrev okX (A : List (Nat × Nat)) (B : List Nat) : Prop := okw [14] [(0, 13), (0, 14), (0, 15), (1, 2), (3, 3), (7, 9), (7, 10), (20, 0), (23, 0), (6, 9), (6, 10)] A B = true
abbrev okM (A : List (Nat × Nat)) (B : List Nat) : Prop := okw [13] [(0, 18), (0, 20), (0, 81), (0, 1), (0, 2), (0, 83), (0, 84), (0, 62), (0, 73)] A B = true
theorem okw_mo {fc : List Nat} {ff ff' : List (Nat × Nat)} {A : List (Nat × Nat)} {B : List Nat} (o : okw fc ff A B = true) (h : ∀ p ∈ ff', p ∈ ff) : okw fc ff' A B = true := by
  have o := Bool.and_eq_true_iff.mp o
  exact Bool.and_eq_true_iff.mpr ⟨o.1, List.all_eq_true.mpr (fun p hp => List.all_eq_true.mp o.2 p (h p hp))⟩
theorem cp_fr0 {A A' : List (Nat × Nat)} {B B' : List Nat} {g gm g1 g2 : gT} (h : CP g gm) (hI1 : zI XT g1) (hI2 : zI MT g2) (hJ2 : mJ g2) (f1 : FW A B g g1) (f2 : FW A' B' gm g2) (o1 : okX0 A B) (o2 : okM0 A' B') (c9 : g1 6 9 = g2 0 62) (c10 : g1 6 10 = g2 0 73) : CP g1 g2 := by
  obtain ⟨-, -, -, ⟨t1, t2⟩, h5, h6, ⟨k1, k2, -, -, k5⟩, z1, z2⟩ := h
  have e18 : g2 0 18 = gm 0 18 := okw_f o2 f2 (by decide)
  have e81 : g2 0 81 = gm 0 81 := okw_f o2 f2 (by decide)
  refine ⟨hI1, hI2, hJ2, ⟨?_, fun j hj => ?_⟩, ?_, ?_, ⟨?_, ?_, c9, c10, ?_⟩, (okw_f o1 f1 (by decide)).trans z1, (okw_f o1 f1 (by decide)).trans z2⟩
  · rw [okw_f (k := 0) (j := 13) o1 f1 (by decide), e18]; exact t1
  · rw [e18] at hj
    rw [okw_c (k := 14) o1 f1 (by decide), okw_c (k := 13) o2 f2 (by decide)]; exact t2 j hj
  · rw [okw_f (k := 0) (j := 14) o1 f1 (by decide), okw_f (k := 0) (j := 20) o2 f2 (by decide)]; exact h5
  · rw [okw_f (k := 0) (j := 15) o1 f1 (by decide), e81]; exact h6
  · rw [okw_f (k := 1) (j := 2) o1 f1 (by decide), okw_f (k := 0) (j := 1) o2 f2 (by decide)]; exact k1
  · rw [okw_f (k := 3) (j := 3) o1 f1 (by decide), okw_f (k := 0) (j := 2) o2 f2 (by decide)]; exact k2
  · rw [e81, okw_f (k := 7) (j := 9) o1 f1 (by decide), okw_f (k := 7) (j := 10) o1 f1 (by decide), okw_f (k := 0) (j := 83) o2 f2 (by decide), okw_f (k := 0) (j := 84) o2 f2 (by decide)]; exact k5
theorem cp_fr {A A' : List (Nat × Nat)} {B B' : List Nat} {g gm g1 g2 : gT} (h : CP g gm) (hI1 : zI XT g1) (hI2 : zI MT g2) (hJ2 : mJ g2) (f1 : FW A B g g1) (f2 : FW A' B' gm g2) (o1 : okX A B) (o2 : okM A' B') : CP g1 g2 := by
  have h9 := h.2.2.2.2.2.2.1.2.2.1
  have h10 := h.2.2.2.2.2.2.1.2.2.2.1
  refine cp_fr0 h hI1 hI2 hJ2 f1 f2 (okw_mo o1 (by decide)) (okw_mo o2 (by decide)) ?_ ?_
  · rw [okw_f (k := 6) (j := 9) o1 f1 (by decide), okw_f (k := 0) (j := 62) o2 f2 (by decide)]; exact h9
  · rw [okw_f (k := 6) (j := 10) o1 f1 (by decide), okw_f (k := 0) (j := 73) o2 f2 (by decide)]; exact h10
theorem cp_feed {fu : Nat} (hfu : 1180591620717411303424 ≤ fu) {g gm : gT} (L Lm : lT) (p1 p2 p3 p4 p5 : Int32) (h : CP g gm) : ∃ r g1 L1 g2 L2, fX11_feed_0 fu p1 p2 p3 p4 p5 g L = some (r, (g1, L1)) ∧ fX12_feed fu p1 p2 p3 p4 p5 gm Lm = some (r, (g2, L2)) ∧ CP g1 g2 := by
  obtain ⟨r, g1, g2, e1, e2, t⟩ := feed_tp hfu (L := L) (Lm := Lm) (p1 := p1) (p2 := p2) (p3 := p3) (p4 := p4) (p5 := p5) h.2.1 h.2.2.2.1
  have f1 : FW _ _ g g1 := w_fX11_feed_0 _ _ _ _ _ _ _ _ _ FW.refl _ _ e1
  have f2 : FW _ _ gm g2 := w_fX12_feed _ _ _ _ _ _ _ _ _ FW.refl _ _ e2
  obtain ⟨r', g1', L1', e1', hI1, -⟩ := sX11_feed_0 fu hfu p1 p2 p3 p4 p5 g L h.1
  obtain ⟨r'', g2', L2', e2', hI2, hJ2, -⟩ := sX12_feed fu hfu p1 p2 p3 p4 p5 gm Lm h.2.1 h.2.2.1
  rw [e1] at e1'
  rw [e2] at e2'
  cases e1'
  cases e2'
  obtain ⟨-, -, -, -, h5, h6, ⟨k1, k2, k3, k4, k5⟩, z1, z2⟩ := h
  have e81 : g2 0 81 = gm 0 81 := f2 0 81 (by decide) (by decide)
  refine ⟨r, g1, L, g2, Lm, e1, e2, hI1, hI2, hJ2, t, ?_, ?_, ⟨?_, ?_, ?_, ?_, ?_⟩, (f1 20 0 (by decide) (by decide)).trans z1, (f1 23 0 (by decide) (by decide)).trans z2⟩
  · rw [f1 0 14 (by decide) (by decide), f2 0 20 (by decide) (by decide)]; exact h5
  · rw [f1 0 15 (by decide) (by decide), e81]; exact h6
  · rw [f1 1 2 (by decide) (by decide), f2 0 1 (by decide) (by decide)]; exact k1
  · rw [f1 3 3 (by decide) (by decide), f2 0 2 (by decide) (by decide)]; exact k2
  · rw [f1 6 9 (by decide) (by decide), f2 0 62 (by decide) (by decide)]; exact k3
  · rw [f1 6 10 (by decide) (by decide), f2 0 73 (by decide) (by decide)]; exact k4
  · rw [e81, f1 7 9 (by decide) (by decide), f1 7 10 (by decide) (by decide), f2 0 83 (by decide) (by decide), f2 0 84 (by decide) (by decide)]; exact k5
/-- the reference refuses a length -/
theorem m_refused {fu : Nat} {p1 : Int32} {g0 : gT} {L0 : lT} (h : p1.toInt < 0 ∨ (g0 0 18).toInt < p1.toInt) : fX12_house fu p1 g0 L0 = some (0, (upd2 (upd2 g0 0 0 0) 0 0 1, L0)) := by
  have no : fX12_house_p22 fu p1 (upd2 g0 0 0 0) L0 = some (0, (upd2 (upd2 g0 0 0 0) 0 0 1, L0)) := by
    unfold fX12_house_p22 fX12_house_p23
    exact q_cb (right0 upd2_at (by decide)) (q_t rfl rfl)
  unfold fX12_house
  refine q_sti ?_
  by_cases c1 : p1 < 0
  · exact q_t c1 no
  · refine q_f c1 (q_t ?_ no)
    have c1 := icc_nlt (m := p1.toInt) (n := 0) rfl (by decide) c1
    show g0 0 18 < p1
    exact Int32.lt_iff_toInt_lt.mpr (by omega)
theorem cp_house {fu : Nat} (hfu : 1180591620717411303424 ≤ fu) {g gm : gT} (L Lm : lT) (p1 : Int32) (h : CP g gm) : ∃ rx g1 L1 rm g2 L2, fX11_house_0 fu p1 g L = some (rx, (g1, L1)) ∧ fX12_house fu p1 gm Lm = some (rm, (g2, L2)) ∧ (∀ E, rx = .error E → E = "java/lang/IllegalArgumentException") ∧ CP g1 g2 := by
  obtain ⟨hI, hI2, hJ2, hT, h5, h6, ⟨k1, k2, k3, k4, k5⟩, z20, z23⟩ := h
  have q18 := hI2 0 18 0 700 rfl
  have e13 : (g 0 13).toInt = (gm 0 18).toInt := by rw [hT.1]
  by_cases c : 0 ≤ p1.toInt ∧ p1.toInt ≤ (gm 0 18).toInt
  · obtain ⟨n, hn⟩ : ∃ n : Nat, p1.toInt = (n : Int) := ⟨p1.toInt.toNat, by omega⟩
    obtain ⟨rx, g1, L1, e1, ⟨z1, z2, z3⟩, z4⟩ := (sX11_house_0 fu hfu p1 g L hI).and (l_house hfu (b := gm 13) (n := n) (L0 := L) hI hn (by omega) (fun j hj => hT.2 j (by omega)) z23)
    obtain ⟨rm, g2, L2, e2, ⟨y1, y2, y3, -⟩, y4⟩ := (sX12_house fu hfu p1 gm Lm hI2 hJ2).and (t_house hfu (b := gm 13) (n := n) (L0 := Lm) hI2 hn (by omega) (fun j hj => rfl))
    have y3 := y3 c.1 c.2
    have z13 : (g1 0 13).toInt = 0 := by
      cases rx with
      | error E => have := (z2 E rfl).2.2; omega
      | ok v => exact (z3 v rfl).1
    refine ⟨rx, g1, L1, rm, g2, L2, e1, e2, fun E hE => (z2 E hE).1, z1, y1, y2, ⟨ic_eq.mpr (by rw [z13, y3]), fun j hj => by omega⟩, ?_⟩
    clear z1 z2 z3 z13 y1 y2 y3 e1 e2
    revert y4 z4
    generalize hoS (gm 13) n 702 (0, 0, false, false) (sk (gm 13) n 0) = R
    generalize hoD (gm 13) n 702 (0, 0, false, false) D0 (sk (gm 13) n 0) = DD
    intro z4 y4
    cases R with
    | error p =>
      obtain ⟨z1, z2, z3, -, z9⟩ := z4
      obtain ⟨y1, y2, -⟩ := y4
      refine ⟨ic_eq.mpr (z1.trans y1.symm), ?_, ⟨?_, ?_, ?_, ?_, ?_⟩, ?_, z9⟩
      rotate_right
      · rw [z2 20 (by decide) (by decide)]; exact z20
      · rw [z3 15 (by decide), y2.1 81 (by decide)]; exact h6
      · rw [z2 1 (by decide) (by decide), y2.1 1 (by decide)]; exact k1
      · rw [z2 3 (by decide) (by decide), y2.1 2 (by decide)]; exact k2
      · rw [z2 6 (by decide) (by decide), y2.1 62 (by decide)]; exact k3
      · rw [z2 6 (by decide) (by decide), y2.1 73 (by decide)]; exact k4
      · rw [z2 7 (by decide) (by decide), y2.1 81 (by decide), y2.1 83 (by decide), y2.1 84 (by decide)]; exact k5
    | ok u =>
      obtain ⟨z1, z2, z3, z4, z5, z6, z7, z8, z9, -, -, z12, z13, -⟩ := z4
      obtain ⟨y1, y2, y3, y4, y5, y6, y7, y8, y9, -⟩ := y4
      exact ⟨ic_eq.mpr (z1.trans y1.symm), z2.trans y2.symm, ⟨ic_eq.mpr (z3.trans y3.symm), ic_eq.mpr (z4.trans y4.symm), z5.trans y6.symm, z6.trans y7.symm, fun h => absurd y2 h⟩, z12, z13.trans z20⟩
  · have c' : p1.toInt < 0 ∨ (gm 0 18).toInt < p1.toInt := by omega
    refine ⟨.error "java/lang/IllegalArgumentException", g, L, 0, _, Lm, ?_, m_refused c', fun E hE => by cases hE; rfl, hI, (hI2.updN rfl).updN rfl, (hJ2.upd rfl).upd rfl, hT, h5, h6, ⟨k1, k2, k3, k4, k5⟩, z20, z23⟩
    unfold fX11_house_0 fX11_house_0_p12
    by_cases c1 : p1 < 0
    · exact if_pos c1
    · rw [if_neg c1]
      have c1 := icc_nlt (m := p1.toInt) (n := 0) rfl (by decide) c1
      exact if_neg (fun hh => by have := icc_le (m := p1.toInt) (n := (g 0 13).toInt) rfl rfl hh; omega)
theorem cp_image {fu : Nat} {g gm g1 g2 : gT} {L Lm L1 L2 : lT} {rx rm : Unit} (h : CP g gm) (e1 : fX11_image_0 fu g L = some (rx, (g1, L1))) (e2 : fX12_image fu gm Lm = some (rm, (g2, L2))) (hI1 : zI XT g1) (hI2 : zI MT g2) (hJ2 : mJ g2) : CP g1 g2 := by
  have f1 : FW _ _ g g1 := w_fX11_image_0 _ _ _ _ FW.refl _ _ e1
  have f2 : FW _ _ gm g2 := w_fX12_image _ _ _ _ FW.refl _ _ e2
  have a1 : g1 0 15 = 1 ∧ g1 7 9 = g 6 9 ∧ g1 7 10 = g 6 10 := by
    have e := e1
    unfold fX11_image_0 at e
    obtain ⟨x, ga, La, ea, e⟩ := cb_some e
    have e : some ((), (upd2 ga 0 15 1, La)) = some (rx, (g1, L1)) := e
    cases e
    have ea : some _ = some ((), (ga, L1)) := ea
    cases ea
    exact ⟨upd2_at, rfl, rfl⟩
  have a2 : g2 0 81 = 1 ∧ g2 0 83 = gm 0 62 ∧ g2 0 84 = gm 0 73 := by
    have e := e2
    unfold fX12_image at e
    unfold sti at e
    obtain ⟨x, ga, La, ea, e⟩ := cb_some e
    obtain ⟨x', gb, Lb, eb, e⟩ := cb_some e
    obtain ⟨x'', gc, Lc, ec, e⟩ := cb_some e
    cases e
    have z1 : ∀ j, g2 0 j = gb 0 j := fun j => w_fX12_copies_43_50 _ _ _ _ FW.refl _ _ ec 0 j (by decide) (List.not_mem_nil)
    have z2 : ∀ j, gb 0 j = ga 0 j := fun j => w_fX12_copies_36_49 _ _ _ _ FW.refl _ _ eb 0 j (by decide) (List.not_mem_nil)
    have z3 : ∀ j, ga 0 j = _ := fun j => w_fX12_copies_12_48 _ _ _ _ FW.refl _ _ ea 0 j (by decide) (List.not_mem_nil)
    rw [z1, z1, z1, z2, z2, z2, z3, z3, z3]
    exact ⟨rfl, rfl, rfl⟩
  obtain ⟨-, -, -, ⟨t1, t2⟩, h5, h6, ⟨k1, k2, k3, k4, k5⟩, z1, z2⟩ := h
  have e18 : g2 0 18 = gm 0 18 := f2 0 18 (by decide) (by decide)
  refine ⟨hI1, hI2, hJ2, ⟨?_, fun j hj => ?_⟩, ?_, a1.1.trans a2.1.symm, ⟨?_, ?_, ?_, ?_, fun _ => ⟨?_, ?_⟩⟩, (f1 20 0 (by decide) (by decide)).trans z1, (f1 23 0 (by decide) (by decide)).trans z2⟩
  · rw [f1 0 13 (by decide) (by decide), e18]; exact t1
  · rw [e18] at hj
    rw [f1.c (by decide) (by decide), f2.c (by decide) (by decide)]; exact t2 j hj
  · rw [f1 0 14 (by decide) (by decide), f2 0 20 (by decide) (by decide)]; exact h5
  · rw [f1 1 2 (by decide) (by decide), f2 0 1 (by decide) (by decide)]; exact k1
  · rw [f1 3 3 (by decide) (by decide), f2 0 2 (by decide) (by decide)]; exact k2
  · rw [f1 6 9 (by decide) (by decide), f2 0 62 (by decide) (by decide)]; exact k3
  · rw [f1 6 10 (by decide) (by decide), f2 0 73 (by decide) (by decide)]; exact k4
  · rw [a1.2.1, a2.2.1]; exact k3
  · rw [a1.2.2, a2.2.2]; exact k4
theorem cp_restore {fu : Nat} {g gm g1 g2 : gT} {L Lm L1 L2 : lT} {rx rm : Int32} (h : CP g gm) (e1 : fX11_restore_0 fu g L = some (rx, (g1, L1))) (e2 : fX12_restore fu gm Lm = some (rm, (g2, L2))) (hI1 : zI XT g1) (hI2 : zI MT g2) (hJ2 : mJ g2) : CP g1 g2 ∧ rx = rm := by
  have f1 : FW _ _ g g1 := w_fX11_restore_0 _ _ _ _ FW.refl _ _ e1
  have f2 : FW _ _ gm g2 := w_fX12_restore _ _ _ _ FW.refl _ _ e2
  have h6 := h.2.2.2.2.2.1
  obtain ⟨-, -, k3, k4, k5⟩ := h.2.2.2.2.2.2.1
  unfold fX11_restore_0 at e1
  unfold fX12_restore at e2
  have e2 : (if gm 0 81 = 0 then _ else _) = some (rm, (g2, L2)) := e2
  by_cases c : gm 0 81 = 0
  · rw [h6, if_pos c, ckb0] at e1
    rw [if_pos c, ckb0] at e2
    cases e1; cases e2
    exact ⟨cp_fr0 h hI1 hI2 hJ2 f1 f2 (by decide) (by decide) k3 k4, rfl⟩
  · rw [h6, if_neg c] at e1
    rw [if_neg c] at e2
    obtain ⟨x, ga, La, ea, e1⟩ := cb_some e1
    rw [ckb1] at e1
    cases e1
    have ea : some _ = some (x, (g1, L1)) := ea
    cases ea
    unfold sti at e2
    obtain ⟨x, gb, Lb, eb, e2⟩ := cb_some e2
    obtain ⟨x, gc, Lc, ec, e2⟩ := cb_some e2
    obtain ⟨x, gd, Ld, ed, e2⟩ := cb_some e2
    rw [ckb1] at e2
    cases e2
    have z1 : ∀ j, g2 0 j = gc 0 j := fun j => w_fX12_copies_50_43 _ _ _ _ FW.refl _ _ ed 0 j (by decide) (List.not_mem_nil)
    have z2 : ∀ j, gc 0 j = gb 0 j := fun j => w_fX12_copies_49_36 _ _ _ _ FW.refl _ _ ec 0 j (by decide) (List.not_mem_nil)
    have z3 : ∀ j, gb 0 j = _ := fun j => w_fX12_copies_48_12 _ _ _ _ FW.refl _ _ eb 0 j (by decide) (List.not_mem_nil)
    refine ⟨cp_fr0 h hI1 hI2 hJ2 f1 f2 (by decide) (by decide) ?_ ?_, rfl⟩
    · rw [z1, z2, z3]; exact (k5 c).1
    · rw [z1, z2, z3]; exact (k5 c).2
theorem cp_fault {fu : Nat} {g gm g1 g2 : gT} {L Lm L1 L2 : lT} {rx rm : Int32} (h : CP g gm) (e1 : fX11_fault_0 fu g L = some (rx, (g1, L1))) (e2 : fX12_fault fu gm Lm = some (rm, (g2, L2))) : rx = rm := by
  have h5 := h.2.2.2.2.1
  unfold fX11_fault_0 at e1
  unfold fX12_fault at e2
  cases e1; cases e2
  exact h5
/-- rules -/
theorem obey_x {fu : Nat} {p : Int32} {g : gT} {L : lT} (hr : 0 ≤ (g 6 9).toInt ∧ (g 6 9).toInt ≤ 40) : Pc (fX11_obey_0 fu p g L) (fun r g1 _ => (-1 ≤ p.toInt ∧ p.toInt < (g 3 3).toInt → r = 1 ∧ (g1 6 9).toInt = bmp (g 6 9).toInt) ∧ (¬ (-1 ≤ p.toInt ∧ p.toInt < (g 3 3).toInt) → r = 0 ∧ g1 6 9 = g 6 9)) := by
  have e : ∃ x : Int32, fX11_isRuleOrNone_0 fu p g L = some (x, (g, L)) ∧ ((x = 1 ∧ (-1 ≤ p.toInt ∧ p.toInt < (g 3 3).toInt)) ∨ (x = 0 ∧ ¬ (-1 ≤ p.toInt ∧ p.toInt < (g 3 3).toInt))) := by
    unfold fX11_isRuleOrNone_0 fX11_isRuleOrNone_0_p23 fX11_isRuleOrNone_0_p24
    rw [ckb0, ckb1]
    by_cases c1 : p < (-1)
    · rw [if_pos c1]
      have c1 := icc_lt (m := p.toInt) (n := -1) rfl (by decide) c1
      exact ⟨0, rfl, Or.inr ⟨rfl, fun h => by omega⟩⟩
    · rw [if_neg c1]
      have c1 := icc_nlt (m := p.toInt) (n := -1) rfl (by decide) c1
      by_cases c2 : g 3 3 ≤ p
      · rw [if_pos c2]
        have c2 := icc_le (m := (g 3 3).toInt) (n := p.toInt) rfl rfl c2
        exact ⟨0, rfl, Or.inr ⟨rfl, fun h => by omega⟩⟩
      · rw [if_neg c2]
        have c2 := icc_nle (m := (g 3 3).toInt) (n := p.toInt) rfl rfl c2
        exact ⟨1, rfl, Or.inl ⟨rfl, by omega, by omega⟩⟩
  obtain ⟨x, e, hx⟩ := e
  unfold fX11_obey_0
  refine pc_cb (P := fun x' g' L' => x' = x ∧ g' = g ∧ L' = L) (fun x' g' L' e' => by rw [e] at e'; cases e'; exact ⟨rfl, rfl, rfl⟩) (fun x' g' L' hh => ?_)
  obtain ⟨rfl, rfl, rfl⟩ := hh
  rcases hx with ⟨rfl, hx⟩ | ⟨rfl, hx⟩
  · rw [if_neg (by decide)]
    refine pc_cb (keepAct_n hr.1 hr.2) (fun _ ga La ha => pc_st (fun gb eb => pc_ckb (pc_some ⟨fun _ => ⟨rfl, ?_⟩, fun h => absurd hx h⟩)))
    rw [eb]; exact ha
  · rw [if_pos rfl]
    refine pc_ck (fun _ _ => pc_ck (fun _ _ => pc_st (fun ga ea => pc_ckb (pc_some ⟨fun h => absurd h hx, fun _ => ⟨rfl, ?_⟩⟩))))
    rw [ea]; rfl
theorem obey_m {fu : Nat} {p : Int32} {g : gT} {L : lT} (hr : 0 ≤ (g 0 62).toInt ∧ (g 0 62).toInt ≤ 40) : Pc (fX12_obey fu p g L) (fun r g1 _ => (-1 ≤ p.toInt ∧ p.toInt < (g 0 2).toInt → r = 1 ∧ (g1 0 62).toInt = bmp (g 0 62).toInt) ∧ (¬ (-1 ≤ p.toInt ∧ p.toInt < (g 0 2).toInt) → r = 0 ∧ g1 0 62 = g 0 62)) := by
  unfold fX12_obey
  refine pc_st (fun ga ea => ?_)
  have a2 : ga 0 2 = g 0 2 := by rw [ea]; rfl
  have a62 : ga 0 62 = g 0 62 := by rw [ea]; rfl
  have P18 : ¬ (-1 ≤ p.toInt ∧ p.toInt < (g 0 2).toInt) → Pc (fX12_obey_p18 fu ga L) (fun r g1 _ => (-1 ≤ p.toInt ∧ p.toInt < (g 0 2).toInt → r = 1 ∧ (g1 0 62).toInt = bmp (g 0 62).toInt) ∧ (¬ (-1 ≤ p.toInt ∧ p.toInt < (g 0 2).toInt) → r = 0 ∧ g1 0 62 = g 0 62)) := by
    intro hn
    unfold fX12_obey_p18 fX12_obey_p31
    refine pc_cb (P := fun x g' L' => x = -1 ∧ g' 0 62 = g 0 62) ?_ (fun x gb Lb hb => ?_)
    · unfold fX12_refuses
      exact pc_ck (fun _ _ => pc_ck (fun _ _ => pc_st (fun gc ec => pc_some ⟨rfl, by rw [ec]; exact a62⟩)))
    · rw [hb.1, if_pos (by decide)]
      exact pc_ckb (pc_some ⟨fun h => absurd h hn, fun _ => ⟨rfl, hb.2⟩⟩)
  rw [a2]
  refine pc_ite (fun c => P18 (fun h => ?_)) (fun c1 => ?_)
  · have c := icc_lt (m := p.toInt) (n := -1) rfl (by decide) c
    omega
  have c1 := icc_nlt (m := p.toInt) (n := -1) rfl (by decide) c1
  refine pc_ite (fun c2 => ?_) (fun c2 => P18 (fun h => ?_))
  · have c2 := icc_lt (m := p.toInt) (n := (g 0 2).toInt) rfl rfl c2
    refine pc_cb (keeps_n (by rw [a62]; exact hr.1) (by rw [a62]; exact hr.2)) (fun _ gb Lb hb => pc_st (fun gc ec => pc_ckb (pc_some ⟨fun _ => ⟨rfl, ?_⟩, fun h => absurd ⟨c1, c2⟩ h⟩)))
    rw [ec]
    show (gb 0 62).toInt = _
    rw [hb, a62]
  · have c2 := icc_nlt (m := p.toInt) (n := (g 0 2).toInt) rfl rfl c2
    omega
theorem cp_obey {fu : Nat} {p : Int32} {g gm g1 g2 : gT} {L Lm L1 L2 : lT} {rx rm : Int32} (h : CP g gm) (e1 : fX11_obey_0 fu p g L = some (rx, (g1, L1))) (e2 : fX12_obey fu p gm Lm = some (rm, (g2, L2))) (hI1 : zI XT g1) (hI2 : zI MT g2) (hJ2 : mJ g2) : CP g1 g2 ∧ rx = rm := by
  have f1 : FW _ _ g g1 := w_fX11_obey_0 _ _ _ _ _ FW.refl _ _ e1
  have f2 : FW _ _ gm g2 := w_fX12_obey _ _ _ _ _ FW.refl _ _ e2
  obtain ⟨-, k2, k3, k4, -⟩ := h.2.2.2.2.2.2.1
  have r9 := h.2.1 0 62 0 40 rfl
  have z := obey_x (by rw [k3]; exact r9) _ _ _ e1
  have y := obey_m r9 _ _ _ e2
  rw [k2, k3] at z
  have c10 : g1 6 10 = g2 0 73 := by rw [f1 6 10 (by decide) (by decide), f2 0 73 (by decide) (by decide)]; exact k4
  by_cases c : -1 ≤ p.toInt ∧ p.toInt < (gm 0 2).toInt
  · have z := z.1 c
    have y := y.1 c
    exact ⟨cp_fr0 h hI1 hI2 hJ2 f1 f2 (by decide) (by decide) (ic_eq.mpr (z.2.trans y.2.symm)) c10, z.1.trans y.1.symm⟩
  · have z := z.2 c
    have y := y.2 c
    exact ⟨cp_fr0 h hI1 hI2 hJ2 f1 f2 (by decide) (by decide) (z.2.trans y.2.symm) c10, z.1.trans y.1.symm⟩
/-- undoing -/
theorem undo_x {fu : Nat} {g : gT} {L : lT} (hr : 0 ≤ (g 6 9).toInt ∧ (g 6 9).toInt ≤ 40) : Pc (fX11_undo_0 fu g L) (fun r g1 _ => (1 ≤ (g 6 9).toInt → r.toInt = (g 6 9).toInt - 1 ∧ (g1 6 9).toInt = (g 6 9).toInt - 1) ∧ (¬ 1 ≤ (g 6 9).toInt → r = -1 ∧ g1 6 9 = g 6 9)) := by
  unfold fX11_undo_0
  refine pc_cb (P := fun r g1 _ => (1 ≤ (g 6 9).toInt → r.toInt = (g 6 9).toInt - 1 ∧ (g1 6 9).toInt = (g 6 9).toInt - 1) ∧ (¬ 1 ≤ (g 6 9).toInt → r = -1 ∧ g1 6 9 = g 6 9)) ?_ (fun r g1 L1 hh => pc_some hh)
  unfold fX3_takeBackAct_6 fX3_takeBackAct_6_p80
  refine pc_ite (fun c => ?_) (fun c => ?_)
  · have c := icc_le (m := 1) (n := (g 6 9).toInt) (by decide) rfl c
    refine pc_st (fun ga ea => ?_)
    have a9 : (ga 6 9).toInt = (g 6 9).toInt - 1 := by rw [ea, upd2_at]; exact ic_subc rfl (by decide) (by omega) (by omega)
    refine pc_ck (fun _ _ => pc_ite (fun _ => ?_) (fun _ => ?_))
    · refine pc_ck (fun _ _ => pc_st (fun gb eb => pc_some ?_))
      have b9 : gb 6 9 = ga 6 9 := by rw [eb]; rfl
      rw [b9]
      exact ⟨fun _ => ⟨a9, a9⟩, fun h => absurd c h⟩
    · refine pc_ck (fun _ _ => pc_ck (fun _ _ => pc_ck (fun _ _ => pc_cb (pc_kp (w_fX3_put_6 _ _ _ _ _ _ _ FW.refl)) (fun _ gb Lb hb => pc_some ?_))))
      rw [hb 6 9 (by decide) (by decide)]
      exact ⟨fun _ => ⟨a9, a9⟩, fun h => absurd c h⟩
  · have c := icc_nle (m := 1) (n := (g 6 9).toInt) (by decide) rfl c
    exact pc_some ⟨fun h => by omega, fun _ => ⟨rfl, rfl⟩⟩
theorem undo_m {fu : Nat} {g : gT} {L : lT} (hr : 0 ≤ (g 0 62).toInt ∧ (g 0 62).toInt ≤ 40) : Pc (fX12_undo fu g L) (fun r g1 _ => (1 ≤ (g 0 62).toInt → r.toInt = (g 0 62).toInt - 1 ∧ (g1 0 62).toInt = (g 0 62).toInt - 1) ∧ (¬ 1 ≤ (g 0 62).toInt → r = -1 ∧ g1 0 62 = g 0 62)) := by
  unfold fX12_undo fX12_undo_p89
  refine pc_st (fun ga ea => ?_)
  have a62 : ga 0 62 = g 0 62 := by rw [ea]; rfl
  rw [a62]
  refine pc_ite (fun c => ?_) (fun c => ?_)
  · have c := icc_eq (m := (g 0 62).toInt) (n := 0) rfl (by decide) c
    exact pc_some ⟨fun h => by omega, fun _ => ⟨rfl, a62⟩⟩
  have c := icc_neq (m := (g 0 62).toInt) (n := 0) rfl (by decide) c
  refine pc_st (fun gb eb => ?_)
  have b62 : (gb 0 62).toInt = (g 0 62).toInt - 1 := by rw [eb, upd2_at]; exact ic_subc rfl (by decide) (by omega) (by omega)
  refine pc_ck (fun _ _ => pc_ite (fun _ => ?_) (fun _ => ?_))
  · refine pc_ck (fun _ _ => pc_st (fun gc ec => pc_some ?_))
    have c62 : gc 0 62 = gb 0 62 := by rw [ec]; rfl
    rw [c62]
    exact ⟨fun _ => ⟨b62, b62⟩, fun h => by omega⟩
  · refine pc_ck (fun _ _ => pc_ck (fun _ _ => pc_ck (fun _ _ => pc_st (fun gc ec => pc_some ?_))))
    have c62 : gc 0 62 = gb 0 62 := by rw [ec]; rfl
    rw [c62]
    exact ⟨fun _ => ⟨b62, b62⟩, fun h => by omega⟩
theorem cp_undo {fu : Nat} {g gm g1 g2 : gT} {L Lm L1 L2 : lT} {rx rm : Int32} (h : CP g gm) (e1 : fX11_undo_0 fu g L = some (rx, (g1, L1))) (e2 : fX12_undo fu gm Lm = some (rm, (g2, L2))) (hI1 : zI XT g1) (hI2 : zI MT g2) (hJ2 : mJ g2) : CP g1 g2 ∧ rx = rm := by
  have f1 : FW _ _ g g1 := w_fX11_undo_0 _ _ _ _ FW.refl _ _ e1
  have f2 : FW _ _ gm g2 := w_fX12_undo _ _ _ _ FW.refl _ _ e2
  obtain ⟨-, k2, k3, k4, -⟩ := h.2.2.2.2.2.2.1
  have r9 := h.2.1 0 62 0 40 rfl
  have z := undo_x (by rw [k3]; exact r9) _ _ _ e1
  have y := undo_m r9 _ _ _ e2
  rw [k3] at z
  have c10 : g1 6 10 = g2 0 73 := by rw [f1 6 10 (by decide) (by decide), f2 0 73 (by decide) (by decide)]; exact k4
  by_cases c : 1 ≤ (gm 0 62).toInt
  · have z := z.1 c
    have y := y.1 c
    exact ⟨cp_fr0 h hI1 hI2 hJ2 f1 f2 (by decide) (by decide) (ic_eq.mpr (z.2.trans y.2.symm)) c10, ic_eq.mpr (z.1.trans y.1.symm)⟩
  · have z := z.2 c
    have y := y.2 c
    exact ⟨cp_fr0 h hI1 hI2 hJ2 f1 f2 (by decide) (by decide) (z.2.trans y.2.symm) c10, z.1.trans y.1.symm⟩
end
