/-! ===== frames ===== -/
abbrev wA_fX11_gap_0 : List (Nat × Nat) := []
abbrev wB_fX11_gap_0 : List Nat := []
theorem w_fX11_gap_0 (g0 : gT) (fu : Nat) (p1 : Int32) (g : gT) (L : lT) (h_g : FW wA_fX11_gap_0 wB_fX11_gap_0 g0 g) : Kp wA_fX11_gap_0 wB_fX11_gap_0 g0 (fX11_gap_0 fu p1 g L) := by
  unfold fX11_gap_0
  refine kp_cbx (w_fX11_needLesson_0 _ _ _ _ _ FW.refl) rfl rfl h_g (fun x1 g2 L3 h_g2 => ?_)
  refine kp_ite ?_ ?_
  ·
    exact kp_some h_g2
  ·
    refine kp_ck ?_
    exact kp_some h_g2
abbrev wA_fX11_chance_0 : List (Nat × Nat) := [(8, 8), (11, 2), (11, 3)]
abbrev wB_fX11_chance_0 : List Nat := [21, 43, 44, 45, 46, 47, 48, 52]
theorem w_fX11_chance_0_p48 (g0 : gT) (fu : Nat) (t0 : Int64) (g : gT) (L : lT) (h_g : FW wA_fX11_chance_0 wB_fX11_chance_0 g0 g) : Kp wA_fX11_chance_0 wB_fX11_chance_0 g0 (fX11_chance_0_p48 fu t0 g L) := by
  unfold fX11_chance_0_p48
  exact kp_some h_g
theorem w_fX11_chance_0 (g0 : gT) (fu : Nat) (p1 : Int32) (p2 : Int32) (p3 : Int32) (g : gT) (L : lT) (h_g : FW wA_fX11_chance_0 wB_fX11_chance_0 g0 g) : Kp wA_fX11_chance_0 wB_fX11_chance_0 g0 (fX11_chance_0 fu p1 p2 p3 g L) := by
  unfold fX11_chance_0
  refine kp_cbx (w_fX11_needLesson_0 _ _ _ _ _ FW.refl) rfl rfl h_g (fun x1 g2 L3 h_g2 => ?_)
  refine kp_cbx (w_fX11_needWhat _ _ _ _ _ _ FW.refl) rfl rfl h_g2 (fun x5 g6 L7 h_g6 => ?_)
  refine kp_cbx (w_fX11_needWithin _ _ _ _ _ _ _ FW.refl) rfl rfl h_g6 (fun x9 g10 L11 h_g10 => ?_)
  refine kp_cb (w_fX0_ofLate_11 _ _ _ _ _ _ FW.refl) rfl rfl h_g10 (fun x13 g14 L15 h_g14 => ?_)
  refine kp_ite ?_ ?_
  ·
    exact w_fX11_chance_0_p48 _ _ _ _ _ h_g14
  ·
    exact w_fX11_chance_0_p48 _ _ _ _ _ h_g14
abbrev wA_fX11_mean_0 : List (Nat × Nat) := [(8, 8), (11, 2), (11, 3)]
abbrev wB_fX11_mean_0 : List Nat := [21, 43, 44, 45, 46, 47, 48, 52]
theorem w_fX11_mean_0_p39 (g0 : gT) (fu : Nat) (t0 : Int64) (g : gT) (L : lT) (h_g : FW wA_fX11_mean_0 wB_fX11_mean_0 g0 g) : Kp wA_fX11_mean_0 wB_fX11_mean_0 g0 (fX11_mean_0_p39 fu t0 g L) := by
  unfold fX11_mean_0_p39
  exact kp_some h_g
theorem w_fX11_mean_0 (g0 : gT) (fu : Nat) (p1 : Int32) (p2 : Int32) (g : gT) (L : lT) (h_g : FW wA_fX11_mean_0 wB_fX11_mean_0 g0 g) : Kp wA_fX11_mean_0 wB_fX11_mean_0 g0 (fX11_mean_0 fu p1 p2 g L) := by
  unfold fX11_mean_0
  refine kp_cbx (w_fX11_needLesson_0 _ _ _ _ _ FW.refl) rfl rfl h_g (fun x1 g2 L3 h_g2 => ?_)
  refine kp_cbx (w_fX11_needWhat _ _ _ _ _ _ FW.refl) rfl rfl h_g2 (fun x5 g6 L7 h_g6 => ?_)
  refine kp_cb (w_fX0_meanLate_11 _ _ _ _ _ FW.refl) rfl rfl h_g6 (fun x9 g10 L11 h_g10 => ?_)
  refine kp_ite ?_ ?_
  ·
    exact w_fX11_mean_0_p39 _ _ _ _ _ h_g10
  ·
    exact w_fX11_mean_0_p39 _ _ _ _ _ h_g10
abbrev wA_fX11_swap_0 : List (Nat × Nat) := [(13, 0), (13, 1), (13, 2)]
abbrev wB_fX11_swap_0 : List Nat := [21, 25, 43, 44, 45, 46, 47, 48]
theorem w_fX11_swap_0 (g0 : gT) (fu : Nat) (p1 : Int32) (g : gT) (L : lT) (h_g : FW wA_fX11_swap_0 wB_fX11_swap_0 g0 g) : Kp wA_fX11_swap_0 wB_fX11_swap_0 g0 (fX11_swap_0 fu p1 g L) := by
  unfold fX11_swap_0
  refine kp_cbx (w_fX11_needWhat _ _ _ _ _ _ FW.refl) rfl rfl h_g (fun x1 g2 L3 h_g2 => ?_)
  refine kp_cb (w_fX10_swapped_9 _ _ _ _ _ FW.refl) rfl rfl h_g2 (fun x5 g6 L7 h_g6 => ?_)
  exact kp_some h_g6
abbrev wA_fX11_room_0 : List (Nat × Nat) := [(13, 0), (13, 1), (13, 2)]
abbrev wB_fX11_room_0 : List Nat := [21, 25, 26, 27, 28, 43, 44, 45, 46, 47, 48]
theorem w_fX11_room_0 (g0 : gT) (fu : Nat) (p1 : Int32) (p2 : Int32) (g : gT) (L : lT) (h_g : FW wA_fX11_room_0 wB_fX11_room_0 g0 g) : Kp wA_fX11_room_0 wB_fX11_room_0 g0 (fX11_room_0 fu p1 p2 g L) := by
  unfold fX11_room_0
  refine kp_cbx (w_fX11_needLesson_0 _ _ _ _ _ FW.refl) rfl rfl h_g (fun x1 g2 L3 h_g2 => ?_)
  refine kp_cbx (w_fX11_needWhat _ _ _ _ _ _ FW.refl) rfl rfl h_g2 (fun x5 g6 L7 h_g6 => ?_)
  refine kp_cb (w_fX10_leastBy_9 _ _ _ _ _ _ _ FW.refl) rfl rfl h_g6 (fun x9 g10 L11 h_g10 => ?_)
  exact kp_some h_g10
abbrev wA_fX11_limit_0 : List (Nat × Nat) := [(13, 0), (13, 1), (13, 2)]
abbrev wB_fX11_limit_0 : List Nat := [21, 25, 26, 27, 28, 43, 44, 45, 46, 47, 48]
theorem w_fX11_limit_0 (g0 : gT) (fu : Nat) (p1 : Int32) (p2 : Int32) (g : gT) (L : lT) (h_g : FW wA_fX11_limit_0 wB_fX11_limit_0 g0 g) : Kp wA_fX11_limit_0 wB_fX11_limit_0 g0 (fX11_limit_0 fu p1 p2 g L) := by
  unfold fX11_limit_0
  refine kp_cbx (w_fX11_needLesson_0 _ _ _ _ _ FW.refl) rfl rfl h_g (fun x1 g2 L3 h_g2 => ?_)
  refine kp_cbx (w_fX11_needWhat _ _ _ _ _ _ FW.refl) rfl rfl h_g2 (fun x5 g6 L7 h_g6 => ?_)
  refine kp_cb (w_fX10_leastBy_9 _ _ _ _ _ _ _ FW.refl) rfl rfl h_g6 (fun x9 g10 L11 h_g10 => ?_)
  exact kp_some h_g10
abbrev wA_fX11_last_0 : List (Nat × Nat) := [(13, 0), (13, 1), (13, 2)]
abbrev wB_fX11_last_0 : List Nat := [21, 25, 43, 44, 45, 46, 47, 48]
theorem w_fX11_last_0 (g0 : gT) (fu : Nat) (g : gT) (L : lT) (h_g : FW wA_fX11_last_0 wB_fX11_last_0 g0 g) : Kp wA_fX11_last_0 wB_fX11_last_0 g0 (fX11_last_0 fu g L) := by
  unfold fX11_last_0
  refine kp_cb (w_fX10_withoutOne_9 _ _ _ _ FW.refl) rfl rfl h_g (fun x1 g2 L3 h_g2 => ?_)
  exact kp_some h_g2
abbrev wA_fX11_compare_0 : List (Nat × Nat) := [(6, 11)]
abbrev wB_fX11_compare_0 : List Nat := [21, 43, 44, 45, 46, 47, 48]
theorem w_fX11_compare_0 (g0 : gT) (fu : Nat) (p1 : Int32) (g : gT) (L : lT) (h_g : FW wA_fX11_compare_0 wB_fX11_compare_0 g0 g) : Kp wA_fX11_compare_0 wB_fX11_compare_0 g0 (fX11_compare_0 fu p1 g L) := by
  unfold fX11_compare_0
  refine kp_cb (w_fX11_isRuleOrNone_0 _ _ _ _ _ FW.refl) rfl rfl h_g (fun x1 g2 L3 h_g2 => ?_)
  refine kp_ite ?_ ?_
  ·
    exact kp_some h_g2
  ·
    refine kp_cb (w_fX10_lostByRule_9 _ _ _ _ _ FW.refl) rfl rfl h_g2 (fun x6 g7 L8 h_g7 => ?_)
    exact kp_some h_g7
abbrev wA_fX11_best_0 : List (Nat × Nat) := [(6, 11), (13, 0), (13, 1), (13, 2)]
abbrev wB_fX11_best_0 : List Nat := [21, 43, 44, 45, 46, 47, 48]
theorem w_fX11_best_0 (g0 : gT) (fu : Nat) (g : gT) (L : lT) (h_g : FW wA_fX11_best_0 wB_fX11_best_0 g0 g) : Kp wA_fX11_best_0 wB_fX11_best_0 g0 (fX11_best_0 fu g L) := by
  unfold fX11_best_0
  refine kp_cb (w_fX10_bestRule_9 _ _ _ _ FW.refl) rfl rfl h_g (fun x1 g2 L3 h_g2 => ?_)
  exact kp_some h_g2
abbrev wA_fX11_bell_0 : List (Nat × Nat) := []
abbrev wB_fX11_bell_0 : List Nat := [21, 25, 43, 44, 45, 46, 47, 48, 49]
theorem w_fX11_bell_0 (g0 : gT) (fu : Nat) (p1 : Int32) (g : gT) (L : lT) (h_g : FW wA_fX11_bell_0 wB_fX11_bell_0 g0 g) : Kp wA_fX11_bell_0 wB_fX11_bell_0 g0 (fX11_bell_0 fu p1 g L) := by
  unfold fX11_bell_0
  refine kp_cbx (w_fX11_needWithin _ _ _ _ _ _ _ FW.refl) rfl rfl h_g (fun x1 g2 L3 h_g2 => ?_)
  refine kp_cb (w_fX10_worthOfBell_9 _ _ _ _ _ FW.refl) rfl rfl h_g2 (fun x5 g6 L7 h_g6 => ?_)
  exact kp_some h_g6
abbrev wA_fX11_see_0 : List (Nat × Nat) := [(6, 10)]
abbrev wB_fX11_see_0 : List Nat := [15, 32, 33]
theorem w_fX11_see_0_p28 (g0 : gT) (fu : Nat) (g : gT) (L : lT) (h_g : FW wA_fX11_see_0 wB_fX11_see_0 g0 g) : Kp wA_fX11_see_0 wB_fX11_see_0 g0 (fX11_see_0_p28 fu g L) := by
  unfold fX11_see_0_p28
  refine kp_ck ?_
  refine kp_ck ?_
  refine kp_stB (by decide) h_g (fun g5 h_g5 => ?_)
  exact kp_some h_g5
theorem w_fX11_see_0 (g0 : gT) (fu : Nat) (p1 : Int32) (p2 : Int32) (g : gT) (L : lT) (h_g : FW wA_fX11_see_0 wB_fX11_see_0 g0 g) : Kp wA_fX11_see_0 wB_fX11_see_0 g0 (fX11_see_0 fu p1 p2 g L) := by
  unfold fX11_see_0
  refine kp_cbx (w_fX11_needLesson_0 _ _ _ _ _ FW.refl) rfl rfl h_g (fun x1 g2 L3 h_g2 => ?_)
  refine kp_ite ?_ ?_
  ·
    exact w_fX11_see_0_p28 _ _ _ _ h_g2
  ·
    refine kp_ite ?_ ?_
    ·
      exact w_fX11_see_0_p28 _ _ _ _ h_g2
    ·
      refine kp_ite ?_ ?_
      ·
        refine kp_cb (w_fX3_keepSeen_6 _ _ _ _ _ _ FW.refl) rfl rfl h_g2 (fun x9 g10 L11 h_g10 => ?_)
        exact kp_some h_g10
      ·
        exact w_fX11_see_0_p28 _ _ _ _ h_g2
abbrev wA_fX11_forget_0 : List (Nat × Nat) := [(6, 10)]
abbrev wB_fX11_forget_0 : List Nat := []
theorem w_fX11_forget_0 (g0 : gT) (fu : Nat) (g : gT) (L : lT) (h_g : FW wA_fX11_forget_0 wB_fX11_forget_0 g0 g) : Kp wA_fX11_forget_0 wB_fX11_forget_0 g0 (fX11_forget_0 fu g L) := by
  unfold fX11_forget_0
  refine kp_stF (by decide) h_g (fun g1 h_g1 => ?_)
  exact kp_some h_g1
abbrev wA_fX11_fits_0 : List (Nat × Nat) := [(9, 4), (9, 5), (9, 6)]
abbrev wB_fX11_fits_0 : List Nat := [21, 25, 43, 44, 45, 46, 47, 48]
theorem w_fX11_fits_0 (g0 : gT) (fu : Nat) (p1 : Int32) (g : gT) (L : lT) (h_g : FW wA_fX11_fits_0 wB_fX11_fits_0 g0 g) : Kp wA_fX11_fits_0 wB_fX11_fits_0 g0 (fX11_fits_0 fu p1 g L) := by
  unfold fX11_fits_0
  refine kp_cbx (w_fX11_needWhat _ _ _ _ _ _ FW.refl) rfl rfl h_g (fun x1 g2 L3 h_g2 => ?_)
  refine kp_cb (w_fX10_findBeginners_9 _ _ _ _ FW.refl) rfl rfl h_g2 (fun x5 g6 L7 h_g6 => ?_)
  refine kp_ite ?_ ?_
  ·
    exact kp_some h_g6
  ·
    refine kp_ite ?_ ?_
    ·
      exact kp_some h_g6
    ·
      exact kp_some h_g6
abbrev wA_fX11_streams_0 : List (Nat × Nat) := [(12, 5)]
abbrev wB_fX11_streams_0 : List Nat := [21, 43, 44, 45, 46, 47, 48, 53, 54, 55, 56]
theorem w_fX11_streams_0 (g0 : gT) (fu : Nat) (g : gT) (L : lT) (h_g : FW wA_fX11_streams_0 wB_fX11_streams_0 g0 g) : Kp wA_fX11_streams_0 wB_fX11_streams_0 g0 (fX11_streams_0 fu g L) := by
  unfold fX11_streams_0
  refine kp_cb (w_fX9_gather_12 _ _ _ _ FW.refl) rfl rfl h_g (fun x1 g2 L3 h_g2 => ?_)
  refine kp_cb (w_fX9_crossings_12 _ _ _ _ FW.refl) rfl rfl h_g2 (fun x5 g6 L7 h_g6 => ?_)
  exact kp_some h_g6
abbrev wA_fX11_term_0 : List (Nat × Nat) := [(8, 8), (11, 4)]
abbrev wB_fX11_term_0 : List Nat := [21, 43, 44, 45, 46, 47, 48]
theorem w_fX11_term_0 (g0 : gT) (fu : Nat) (p1 : Int32) (p2 : Int32) (p3 : Int32) (p4 : Int32) (g : gT) (L : lT) (h_g : FW wA_fX11_term_0 wB_fX11_term_0 g0 g) : Kp wA_fX11_term_0 wB_fX11_term_0 g0 (fX11_term_0 fu p1 p2 p3 p4 g L) := by
  unfold fX11_term_0
  refine kp_cbx (w_fX11_needLesson_0 _ _ _ _ _ FW.refl) rfl rfl h_g (fun x1 g2 L3 h_g2 => ?_)
  refine kp_cbx (w_fX11_needWhat _ _ _ _ _ _ FW.refl) rfl rfl h_g2 (fun x5 g6 L7 h_g6 => ?_)
  refine kp_cbx (w_fX11_needWithin _ _ _ _ _ _ _ FW.refl) rfl rfl h_g6 (fun x9 g10 L11 h_g10 => ?_)
  refine kp_cb (w_fX0_ofTerm_11 _ _ _ _ _ _ _ _ FW.refl) rfl rfl h_g10 (fun x13 g14 L15 h_g14 => ?_)
  exact kp_some h_g14
abbrev wA_fX11_on_0 : List (Nat × Nat) := [(12, 5)]
abbrev wB_fX11_on_0 : List Nat := [21, 43, 44, 45, 46, 47, 48, 53, 54, 55, 56]
theorem w_fX11_on_0_p43 (g0 : gT) (fu : Nat) (t0 : Int32) (g : gT) (L : lT) (h_g : FW wA_fX11_on_0 wB_fX11_on_0 g0 g) : Kp wA_fX11_on_0 wB_fX11_on_0 g0 (fX11_on_0_p43 fu t0 g L) := by
  unfold fX11_on_0_p43
  exact kp_some h_g
theorem w_fX11_on_0 (g0 : gT) (fu : Nat) (p1 : Int32) (p2 : Int32) (g : gT) (L : lT) (h_g : FW wA_fX11_on_0 wB_fX11_on_0 g0 g) : Kp wA_fX11_on_0 wB_fX11_on_0 g0 (fX11_on_0 fu p1 p2 g L) := by
  unfold fX11_on_0
  refine kp_cbx (w_fX11_needWhat _ _ _ _ _ _ FW.refl) rfl rfl h_g (fun x1 g2 L3 h_g2 => ?_)
  refine kp_cbx (w_fX11_needWithin _ _ _ _ _ _ _ FW.refl) rfl rfl h_g2 (fun x5 g6 L7 h_g6 => ?_)
  refine kp_cb (w_fX9_gather_12 _ _ _ _ FW.refl) rfl rfl h_g6 (fun x9 g10 L11 h_g10 => ?_)
  refine kp_ite ?_ ?_
  ·
    refine kp_cb (w_fX1_onBits_8 _ _ _ _ _ FW.refl) rfl rfl h_g10 (fun x18 g19 L20 h_g19 => ?_)
    exact w_fX11_on_0_p43 _ _ _ _ _ h_g19
  ·
    refine kp_cb (w_fX9_peopleIn_12 _ _ _ _ _ FW.refl) rfl rfl h_g10 (fun x14 g15 L16 h_g15 => ?_)
    exact w_fX11_on_0_p43 _ _ _ _ _ h_g15
abbrev wA_fX11_clash_0 : List (Nat × Nat) := []
abbrev wB_fX11_clash_0 : List Nat := [21, 43, 44, 45, 46, 47, 48]
theorem w_fX11_clash_0_p34 (g0 : gT) (fu : Nat) (t0 : Int32) (g : gT) (L : lT) (h_g : FW wA_fX11_clash_0 wB_fX11_clash_0 g0 g) : Kp wA_fX11_clash_0 wB_fX11_clash_0 g0 (fX11_clash_0_p34 fu t0 g L) := by
  unfold fX11_clash_0_p34
  exact kp_some h_g
theorem w_fX11_clash_0 (g0 : gT) (fu : Nat) (p1 : Int32) (g : gT) (L : lT) (h_g : FW wA_fX11_clash_0 wB_fX11_clash_0 g0 g) : Kp wA_fX11_clash_0 wB_fX11_clash_0 g0 (fX11_clash_0 fu p1 g L) := by
  unfold fX11_clash_0
  refine kp_cbx (w_fX11_needWhat _ _ _ _ _ _ FW.refl) rfl rfl h_g (fun x1 g2 L3 h_g2 => ?_)
  refine kp_cb (w_fX1_runFrom_8 _ _ _ _ _ FW.refl) rfl rfl h_g2 (fun x5 g6 L7 h_g6 => ?_)
  refine kp_ite ?_ ?_
  ·
    refine kp_cb (w_fX1_clashes_8 _ _ _ _ FW.refl) rfl rfl h_g6 (fun x14 g15 L16 h_g15 => ?_)
    exact w_fX11_clash_0_p34 _ _ _ _ _ h_g15
  ·
    refine kp_cb (w_fX1_firstClash_8 _ _ _ _ FW.refl) rfl rfl h_g6 (fun x10 g11 L12 h_g11 => ?_)
    exact w_fX11_clash_0_p34 _ _ _ _ _ h_g11
abbrev wA_fX11_busiest_0 : List (Nat × Nat) := [(12, 5)]
abbrev wB_fX11_busiest_0 : List Nat := [21, 43, 44, 45, 46, 47, 48, 53, 54, 55, 56]
theorem w_fX11_busiest_0_p44 (g0 : gT) (fu : Nat) (t0 : Int32) (g : gT) (L : lT) (h_g : FW wA_fX11_busiest_0 wB_fX11_busiest_0 g0 g) : Kp wA_fX11_busiest_0 wB_fX11_busiest_0 g0 (fX11_busiest_0_p44 fu t0 g L) := by
  unfold fX11_busiest_0_p44
  exact kp_some h_g
theorem w_fX11_busiest_0 (g0 : gT) (fu : Nat) (p1 : Int32) (g : gT) (L : lT) (h_g : FW wA_fX11_busiest_0 wB_fX11_busiest_0 g0 g) : Kp wA_fX11_busiest_0 wB_fX11_busiest_0 g0 (fX11_busiest_0 fu p1 g L) := by
  unfold fX11_busiest_0
  refine kp_cbx (w_fX11_needWhat _ _ _ _ _ _ FW.refl) rfl rfl h_g (fun x1 g2 L3 h_g2 => ?_)
  refine kp_cb (w_fX9_gather_12 _ _ _ _ FW.refl) rfl rfl h_g2 (fun x5 g6 L7 h_g6 => ?_)
  refine kp_cb (w_fX9_busiestMinute_12 _ _ _ _ FW.refl) rfl rfl h_g6 (fun x9 g10 L11 h_g10 => ?_)
  refine kp_ite ?_ ?_
  ·
    exact kp_some h_g10
  ·
    refine kp_ite ?_ ?_
    ·
      exact w_fX11_busiest_0_p44 _ _ _ _ _ h_g10
    ·
      refine kp_cb (w_fX9_peopleIn_12 _ _ _ _ _ FW.refl) rfl rfl h_g10 (fun x15 g16 L17 h_g16 => ?_)
      exact w_fX11_busiest_0_p44 _ _ _ _ _ h_g16
abbrev wA_fX11_idle_0 : List (Nat × Nat) := []
abbrev wB_fX11_idle_0 : List Nat := [21, 43, 44, 45, 46, 47, 48]
theorem w_fX11_idle_0 (g0 : gT) (fu : Nat) (g : gT) (L : lT) (h_g : FW wA_fX11_idle_0 wB_fX11_idle_0 g0 g) : Kp wA_fX11_idle_0 wB_fX11_idle_0 g0 (fX11_idle_0 fu g L) := by
  unfold fX11_idle_0
  refine kp_cb (w_fX1_runFrom_8 _ _ _ _ _ FW.refl) rfl rfl h_g (fun x1 g2 L3 h_g2 => ?_)
  refine kp_cb (w_fX1_idleMinutes_8 _ _ _ _ FW.refl) rfl rfl h_g2 (fun x5 g6 L7 h_g6 => ?_)
  exact kp_some h_g6
abbrev wA_fX11_shift_0 : List (Nat × Nat) := [(13, 0), (13, 1), (13, 2)]
abbrev wB_fX11_shift_0 : List Nat := [21, 43, 44, 45, 46, 47, 48, 57, 58, 59, 60, 61, 62, 63, 64, 65, 66, 67, 68]
theorem w_fX11_shift_0 (g0 : gT) (fu : Nat) (p1 : Int32) (p2 : Int32) (g : gT) (L : lT) (h_g : FW wA_fX11_shift_0 wB_fX11_shift_0 g0 g) : Kp wA_fX11_shift_0 wB_fX11_shift_0 g0 (fX11_shift_0 fu p1 p2 g L) := by
  unfold fX11_shift_0
  refine kp_cbx (w_fX11_needLesson_0 _ _ _ _ _ FW.refl) rfl rfl h_g (fun x1 g2 L3 h_g2 => ?_)
  refine kp_cbx (w_fX11_needWhat _ _ _ _ _ _ FW.refl) rfl rfl h_g2 (fun x5 g6 L7 h_g6 => ?_)
  refine kp_cb (w_fX10_leastByShift_9 _ _ _ _ _ _ FW.refl) rfl rfl h_g6 (fun x9 g10 L11 h_g10 => ?_)
  exact kp_some h_g10
abbrev wA_fX11_harm_0 : List (Nat × Nat) := []
abbrev wB_fX11_harm_0 : List Nat := [21, 25, 43, 44, 45, 46, 47, 48]
theorem w_fX11_harm_0 (g0 : gT) (fu : Nat) (p1 : Int32) (p2 : Int32) (g : gT) (L : lT) (h_g : FW wA_fX11_harm_0 wB_fX11_harm_0 g0 g) : Kp wA_fX11_harm_0 wB_fX11_harm_0 g0 (fX11_harm_0 fu p1 p2 g L) := by
  unfold fX11_harm_0
  refine kp_cbx (w_fX11_needLesson_0 _ _ _ _ _ FW.refl) rfl rfl h_g (fun x1 g2 L3 h_g2 => ?_)
  refine kp_cbx (w_fX11_needLesson_0 _ _ _ _ _ FW.refl) rfl rfl h_g2 (fun x5 g6 L7 h_g6 => ?_)
  refine kp_cb (w_fX10_harmDone_9 _ _ _ _ _ _ FW.refl) rfl rfl h_g6 (fun x9 g10 L11 h_g10 => ?_)
  exact kp_some h_g10
abbrev wA_fX11_pair_0 : List (Nat × Nat) := [(13, 0), (13, 1), (13, 2)]
abbrev wB_fX11_pair_0 : List Nat := [21, 25, 43, 44, 45, 46, 47, 48]
theorem w_fX11_pair_0 (g0 : gT) (fu : Nat) (p1 : Int32) (g : gT) (L : lT) (h_g : FW wA_fX11_pair_0 wB_fX11_pair_0 g0 g) : Kp wA_fX11_pair_0 wB_fX11_pair_0 g0 (fX11_pair_0 fu p1 g L) := by
  unfold fX11_pair_0
  refine kp_cbx (w_fX11_needWhat _ _ _ _ _ _ FW.refl) rfl rfl h_g (fun x1 g2 L3 h_g2 => ?_)
  refine kp_cb (w_fX10_withoutTwo_9 _ _ _ _ _ FW.refl) rfl rfl h_g2 (fun x5 g6 L7 h_g6 => ?_)
  exact kp_some h_g6
abbrev wA_fX11_pause_0 : List (Nat × Nat) := [(13, 0), (13, 1), (13, 2)]
abbrev wB_fX11_pause_0 : List Nat := [21, 26, 43, 44, 45, 46, 47, 48]
theorem w_fX11_pause_0 (g0 : gT) (fu : Nat) (p1 : Int32) (p2 : Int32) (g : gT) (L : lT) (h_g : FW wA_fX11_pause_0 wB_fX11_pause_0 g0 g) : Kp wA_fX11_pause_0 wB_fX11_pause_0 g0 (fX11_pause_0 fu p1 p2 g L) := by
  unfold fX11_pause_0
  refine kp_cbx (w_fX11_needWhat _ _ _ _ _ _ FW.refl) rfl rfl h_g (fun x1 g2 L3 h_g2 => ?_)
  refine kp_cbx (w_fX11_needWithin _ _ _ _ _ _ _ FW.refl) rfl rfl h_g2 (fun x5 g6 L7 h_g6 => ?_)
  refine kp_cb (w_fX10_leastByPause_9 _ _ _ _ _ _ FW.refl) rfl rfl h_g6 (fun x9 g10 L11 h_g10 => ?_)
  exact kp_some h_g10
abbrev wA_fX11_image_0 : List (Nat × Nat) := [(0, 15), (7, 9), (7, 10), (7, 11)]
abbrev wB_fX11_image_0 : List Nat := [34, 35, 36, 37, 38, 39, 40, 41, 42]
theorem w_fX11_image_0 (g0 : gT) (fu : Nat) (g : gT) (L : lT) (h_g : FW wA_fX11_image_0 wB_fX11_image_0 g0 g) : Kp wA_fX11_image_0 wB_fX11_image_0 g0 (fX11_image_0 fu g L) := by
  unfold fX11_image_0
  refine kp_cb (w_fX3_copy_7_6 _ _ _ _ FW.refl) rfl rfl h_g (fun x1 g2 L3 h_g2 => ?_)
  refine kp_stF (by decide) h_g2 (fun g5 h_g5 => ?_)
  exact kp_some h_g5
abbrev wA_fX11_restore_0 : List (Nat × Nat) := [(6, 9), (6, 10), (6, 11)]
abbrev wB_fX11_restore_0 : List Nat := [25, 26, 27, 28, 29, 30, 31, 32, 33]
theorem w_fX11_restore_0 (g0 : gT) (fu : Nat) (g : gT) (L : lT) (h_g : FW wA_fX11_restore_0 wB_fX11_restore_0 g0 g) : Kp wA_fX11_restore_0 wB_fX11_restore_0 g0 (fX11_restore_0 fu g L) := by
  unfold fX11_restore_0
  refine kp_ite ?_ ?_
  ·
    refine kp_ckb ?_
    exact kp_some h_g
  ·
    refine kp_cb (w_fX3_copy_6_7 _ _ _ _ FW.refl) rfl rfl h_g (fun x2 g3 L4 h_g3 => ?_)
    refine kp_ckb ?_
    exact kp_some h_g3
