/-! ===== trials leave the data coupled ===== -/
abbrev rfX : List Nat := [15, 19, 20, 29, 30, 31, 32, 33, 34, 35, 36, 37, 38, 39, 40, 41, 42, 81, 82, 83, 84, 85, 86, 87, 88, 89, 90, 91, 92]
abbrev rfM : List Nat := [3, 4, 5, 6, 7, 8, 9, 10, 11, 14, 36, 43, 48, 49, 50]
abbrev rgM : List (Nat × Nat) := [(0, 1), (0, 2), (0, 3), (0, 4), (0, 62), (0, 73), (0, 81), (0, 82), (0, 83), (0, 84)]
theorem rfX_m : ∀ i, i < 12 → 81 + i ∈ rfX := by decide
theorem cd_rs {A A' : List (Nat × Nat)} {B B' : List Nat} {g gm g1 g2 : gT} (hI : zI MT gm) (h : CD g gm) (f1 : FW A B g g1) (r1 : Rs S0 g g1) (f2 : FW A' B' gm g2) (r2 : Rm S0 gm g2) (o1 : okw rfX [(1, 3), (1, 4), (7, 11)] A B = true) (o2 : okw rfM rgM A' B' = true) : CD g1 g2 := by
  obtain ⟨⟨a1, a2, a3, a4⟩, ⟨b1, b2, b3, b4⟩, c1, d1, ⟨x1, x2, x3, x4⟩⟩ := h
  have q1 := hI 0 1 0 12 rfl
  have m1 : g2 0 1 = gm 0 1 := okw_f o2 f2 (by decide)
  have m2 : g2 0 2 = gm 0 2 := okw_f o2 f2 (by decide)
  have m81 : g2 0 81 = gm 0 81 := okw_f o2 f2 (by decide)
  have k1 : g2 1 = gm 1 := funext fun j => r2 1 j (Or.inr (Or.inl rfl)) id
  have k2 : g2 2 = gm 2 := funext fun j => r2 2 j (Or.inr (Or.inr (Or.inl rfl))) id
  have row : ∀ (i k : Nat), i < 12 → 25 ≤ k → k ≤ 28 → g1 k i = g k i := fun i k hi a c => r1 k i (Or.inl ⟨a, c, hi⟩) id
  have now : ∀ j, j < 48 → g2 12 j = gm 12 j := fun j hj => r2 12 j (cz_12 hj) id
  refine ⟨⟨fun i hi => ?_, ?_, ?_, ?_⟩, ⟨fun i hi => ?_, ?_, ?_, ?_⟩, fun h => ?_, fun j hj => ?_, ?_, ?_, ?_, ?_⟩
  · rw [m1] at hi
    refine (a1 i hi).c (funext fun j => r1 (57 + i) j (Or.inr (Or.inr (Or.inl ⟨by omega, by omega⟩))) id) (okw_c o1 f1 (rfX_m i (by omega))) (fun k a c => ?_)
    rcases (by omega : k = 1 ∨ k = 2 ∨ k = 3 ∨ k = 4 ∨ k = 5 ∨ k = 6 ∨ k = 7 ∨ k = 8 ∨ k = 9) with rfl | rfl | rfl | rfl | rfl | rfl | rfl | rfl | rfl
    · exact k1
    · exact k2
    all_goals exact okw_c o2 f2 (by decide)
  · rw [okw_f (k := 1) (j := 3) o1 f1 (by decide), okw_f (k := 0) (j := 3) o2 f2 (by decide)]; exact a2
  · rw [okw_f (k := 1) (j := 4) o1 f1 (by decide), okw_f (k := 0) (j := 4) o2 f2 (by decide)]; exact a3
  · rw [m2]
    exact a4.c (okw_c o1 f1 (by decide)) (okw_c o1 f1 (by decide)) (okw_c o2 f2 (by decide)) (okw_c o2 f2 (by decide))
  · rw [m1] at hi
    obtain ⟨y1, y2, y3, y4⟩ := b1 i hi
    refine ⟨?_, ?_, ?_, ?_⟩
    · rw [row i 25 (by omega) (by decide) (by decide), now i (by omega)]; exact y1
    · rw [row i (25 + 1) (by omega) (by decide) (by decide), now (12 + i) (by omega)]; exact y2
    · rw [row i (25 + 2) (by omega) (by decide) (by decide), now (24 + i) (by omega)]; exact y3
    · rw [row i (25 + 3) (by omega) (by decide) (by decide), now (36 + i) (by omega)]; exact y4
  · rw [r1 6 11 (Or.inr (Or.inl ⟨rfl, rfl⟩)) id, r2 0 52 (Or.inr (Or.inr (Or.inr ⟨rfl, Or.inl rfl⟩))) id]; exact b2
  · rw [okw_f (k := 0) (j := 62) o2 f2 (by decide)]; exact b3.c (okw_c o1 f1 (by decide)) (okw_c o1 f1 (by decide)) (okw_c o1 f1 (by decide)) (okw_c o2 f2 (by decide))
  · rw [okw_f (k := 0) (j := 73) o2 f2 (by decide)]; exact b4.c (okw_c o1 f1 (by decide)) (okw_c o1 f1 (by decide)) (okw_c o2 f2 (by decide))
  · rw [m81] at h
    obtain ⟨y1, y2, y3, y4⟩ := c1 h
    refine ⟨fun i hi => ?_, ?_, ?_, ?_⟩
    · rw [m1] at hi
      exact (y1 i hi).c (okw_c o1 f1 (by decide)) (okw_c o1 f1 (by decide)) (okw_c o1 f1 (by decide)) (okw_c o1 f1 (by decide)) (okw_c o2 f2 (by decide))
    · rw [okw_f (k := 7) (j := 11) o1 f1 (by decide), okw_f (k := 0) (j := 82) o2 f2 (by decide)]; exact y2
    · rw [okw_f (k := 0) (j := 83) o2 f2 (by decide)]; exact y3.c (okw_c o1 f1 (by decide)) (okw_c o1 f1 (by decide)) (okw_c o1 f1 (by decide)) (okw_c o2 f2 (by decide))
    · rw [okw_f (k := 0) (j := 84) o2 f2 (by decide)]; exact y4.c (okw_c o1 f1 (by decide)) (okw_c o1 f1 (by decide)) (okw_c o2 f2 (by decide))
  · rw [okw_c (k := 15) o1 f1 (by decide), okw_c (k := 14) o2 f2 (by decide)]; exact d1 j hj
  · rw [r1 8 8 (Or.inr (Or.inr (Or.inr ⟨rfl, Or.inl rfl⟩))) id]; exact x1
  · rw [r1 8 9 (Or.inr (Or.inr (Or.inr ⟨rfl, Or.inr rfl⟩))) id]; exact x2
  · rw [r2 0 60 (Or.inr (Or.inr (Or.inr ⟨rfl, Or.inr (Or.inl rfl)⟩))) id]; exact x3
  · rw [r2 0 61 (Or.inr (Or.inr (Or.inr ⟨rfl, Or.inr (Or.inr rfl)⟩))) id]; exact x4
section PX
variable {fu : Nat} {g : gT} {L : lT}
theorem nd_l {p : Int32} : Pc (fX11_needLesson_0 fu p g L) (fun _ g1 _ => g1 = g) := by
  by_cases h : isL (g 1 2) p
  · rw [xneed1 h]; exact pc_some rfl
  · rw [xneed0 h]; exact pc_some rfl
theorem nd_w {p q : Int32} : Pc (fX11_needWhat fu p q g L) (fun _ g1 _ => g1 = g) := by
  by_cases h : 0 ≤ p.toInt ∧ p.toInt < q.toInt
  · rw [xwhat1 h.1 h.2]; exact pc_some rfl
  · rw [xwhat0 h]; exact pc_some rfl
theorem nd_n {p a b : Int32} : Pc (fX11_needWithin fu p a b g L) (fun _ g1 _ => g1 = g) := by
  unfold fX11_needWithin fX11_needWithin_p10
  exact pc_ite (fun _ => pc_some rfl) (fun _ => pc_ite (fun _ => pc_some rfl) (fun _ => pc_some rfl))
theorem rs_nd {β γ : Type} {m : Option (Except String β × zS)} {K : β → gT → lT → Option (Except String γ × zS)} (hm : Pc m (fun _ g1 _ => g1 = g)) (h : ∀ x L1, Pc (K x g L1) (fun _ g1 _ => Rs S0 g g1)) : Pc (cbx m K) (fun _ g1 _ => Rs S0 g g1) := pc_cbx hm (fun E g1 L1 e => by rw [e]; exact Rs.refl) (fun x g1 L1 e => by rw [e]; exact h x L1)
theorem rsp_far {p1 p2 p3 : Int32} (h9 : g 8 9 = -1) : Pc (fX11_far_0 fu p1 p2 p3 g L) (fun _ g1 _ => Rs S0 g g1) := by
  unfold fX11_far_0
  refine rs_nd nd_l (fun _ _ => ?_)
  refine rs_nd nd_w (fun _ _ => ?_)
  refine rs_nd nd_n (fun _ _ => ?_)
  unfold fX11_far_0_p54
  refine pc_cb (pc_kp (w_fX10_keepEnds_9 _ _ _ _ FW.refl)) (fun _ g2 L2 f2 => ?_)
  have h2 : Rs S0 g g2 := Rs.refl.f f2 (by decide)
  refine pc_cb (rs_runMore ((h2 8 9 (Or.inr (Or.inr (Or.inr ⟨rfl, Or.inr rfl⟩))) id).trans h9)) (fun _ g3 L3 f3 => ?_)
  exact pc_ite (fun _ => pc_cb (pc_kp (w_fX10_laterBits_9 _ _ _ _ FW.refl)) (fun _ g4 L4 f4 => pc_some ((h2.tr f3).f f4 (by decide)))) (fun _ => pc_cb (pc_kp (w_fX10_laterMinutes_9 _ _ _ _ FW.refl)) (fun _ g4 L4 f4 => pc_some ((h2.tr f3).f f4 (by decide))))
theorem rsp_reaches {p1 p2 : Int32} (h9 : g 8 9 = -1) : Pc (fX11_reaches_0 fu p1 p2 g L) (fun _ g1 _ => Rs S0 g g1) := by
  unfold fX11_reaches_0
  refine rs_nd nd_l (fun _ _ => ?_)
  refine rs_nd nd_l (fun _ _ => ?_)
  exact pc_ite (fun _ => pc_some Rs.refl) (fun _ => pc_cb (rs_reaches h9) (fun _ g2 L2 f2 => pc_some f2))
theorem rsp_slack {p1 : Int32} (h9 : g 8 9 = -1) : Pc (fX11_slack_0 fu p1 g L) (fun _ g1 _ => Rs S0 g g1) := by
  unfold fX11_slack_0
  refine rs_nd nd_l (fun _ _ => ?_)
  exact pc_cb (rs_slack h9) (fun _ g2 L2 f2 => pc_some f2)
theorem rsp_gaps {p1 p2 p3 : Int32} : Pc (fX11_gaps_0 fu p1 p2 p3 g L) (fun _ g1 _ => Rs S0 g g1) := by
  unfold fX11_gaps_0
  refine rs_nd nd_l (fun _ _ => ?_)
  refine rs_nd nd_n (fun _ _ => ?_)
  unfold fX11_gaps_0_p33 fX11_gaps_0_p82
  refine pc_ite (fun _ => pc_cb (pc_kp (w_fJI_bitCount _ _ _ _ _ FW.refl)) (fun _ g2 L2 f2 => ?_)) (fun _ => pc_some Rs.refl)
  have h2 : Rs S0 g g2 := Rs.refl.f f2 (by decide)
  refine pc_ite (fun _ => pc_cb rs_fewest (fun _ g3 L3 f3 => pc_ite (fun _ => pc_some (h2.tr f3)) (fun _ => pc_stA (fun g4 e4 => pc_st (fun g5 e5 => pc_some ?_))))) (fun _ => pc_some h2)
  have h4 : Rs S0 g g4 := fun a b hc hn => by
    rw [e4, updA_ne (by rcases hc with ⟨x, y, -⟩ | ⟨x, -⟩ | ⟨x, y⟩ | ⟨x, -⟩ <;> omega)]; exact (h2.tr f3) a b hc hn
  exact h4.so e5 (fun h => by rcases h with ⟨h, -⟩ | ⟨h, -⟩ | ⟨h, -⟩ | ⟨h, -⟩ <;> omega)
theorem rsp_chance {p1 p2 p3 : Int32} (h8 : g 8 8 = -1) : Pc (fX11_chance_0 fu p1 p2 p3 g L) (fun _ g1 _ => Rs S0 g g1) := by
  unfold fX11_chance_0
  refine rs_nd nd_l (fun _ _ => ?_)
  refine rs_nd nd_w (fun _ _ => ?_)
  refine rs_nd nd_n (fun _ _ => ?_)
  unfold fX11_chance_0_p48
  exact pc_cb (rs_ofLate h8) (fun _ g2 L2 f2 => pc_ite (fun _ => pc_some f2) (fun _ => pc_some f2))
theorem rsp_mean {p1 p2 : Int32} (h8 : g 8 8 = -1) : Pc (fX11_mean_0 fu p1 p2 g L) (fun _ g1 _ => Rs S0 g g1) := by
  unfold fX11_mean_0
  refine rs_nd nd_l (fun _ _ => ?_)
  refine rs_nd nd_w (fun _ _ => ?_)
  unfold fX11_mean_0_p39
  exact pc_cb (rs_meanLate h8) (fun _ g2 L2 f2 => pc_ite (fun _ => pc_some f2) (fun _ => pc_some f2))
theorem rsp_swap {p1 : Int32} : Pc (fX11_swap_0 fu p1 g L) (fun _ g1 _ => Rs S0 g g1) := by
  unfold fX11_swap_0
  refine rs_nd nd_w (fun _ _ => ?_)
  exact pc_cb rs_swapped (fun _ g2 L2 f2 => pc_some f2)
theorem rsp_room {p1 p2 : Int32} : Pc (fX11_room_0 fu p1 p2 g L) (fun _ g1 _ => Rs S0 g g1) := by
  unfold fX11_room_0
  refine rs_nd nd_l (fun _ _ => ?_)
  refine rs_nd nd_w (fun _ _ => ?_)
  exact pc_cb rs_leastBy (fun _ g2 L2 f2 => pc_some f2)
theorem rsp_limit {p1 p2 : Int32} : Pc (fX11_limit_0 fu p1 p2 g L) (fun _ g1 _ => Rs S0 g g1) := by
  unfold fX11_limit_0
  refine rs_nd nd_l (fun _ _ => ?_)
  refine rs_nd nd_w (fun _ _ => ?_)
  exact pc_cb rs_leastBy (fun _ g2 L2 f2 => pc_some f2)
theorem rsp_last : Pc (fX11_last_0 fu g L) (fun _ g1 _ => Rs S0 g g1) := by
  unfold fX11_last_0
  exact pc_cb rs_withoutOne (fun _ g2 L2 f2 => pc_some f2)
theorem rsp_compare {p1 : Int32} : Pc (fX11_compare_0 fu p1 g L) (fun _ g1 _ => Rs S0 g g1) := by
  unfold fX11_compare_0
  refine pc_cb (pc_kp (w_fX11_isRuleOrNone_0 _ _ _ _ _ FW.refl)) (fun _ g2 L2 f2 => ?_)
  have h2 : Rs S0 g g2 := Rs.refl.f f2 (by decide)
  exact pc_ite (fun _ => pc_some h2) (fun _ => pc_cb rs_lostByRule (fun _ g3 L3 f3 => pc_some (h2.tr f3)))
theorem rsp_best : Pc (fX11_best_0 fu g L) (fun _ g1 _ => Rs S0 g g1) := by
  unfold fX11_best_0
  exact pc_cb rs_bestRule (fun _ g2 L2 f2 => pc_some f2)
theorem rsp_bell {p1 : Int32} : Pc (fX11_bell_0 fu p1 g L) (fun _ g1 _ => Rs S0 g g1) := by
  unfold fX11_bell_0
  refine rs_nd nd_n (fun _ _ => ?_)
  exact pc_cb rs_bell (fun _ g2 L2 f2 => pc_some f2)
theorem rsp_fits {p1 : Int32} : Pc (fX11_fits_0 fu p1 g L) (fun _ g1 _ => Rs S0 g g1) := by
  unfold fX11_fits_0
  refine rs_nd nd_w (fun _ _ => ?_)
  exact pc_cb rs_fits (fun _ g2 L2 f2 => pc_ite (fun _ => pc_some f2) (fun _ => pc_ite (fun _ => pc_some f2) (fun _ => pc_some f2)))
theorem rsp_term {p1 p2 p3 p4 : Int32} (h8 : g 8 8 = -1) : Pc (fX11_term_0 fu p1 p2 p3 p4 g L) (fun _ g1 _ => Rs S0 g g1) := by
  unfold fX11_term_0
  refine rs_nd nd_l (fun _ _ => ?_)
  refine rs_nd nd_w (fun _ _ => ?_)
  refine rs_nd nd_n (fun _ _ => ?_)
  exact pc_cb (rs_ofTerm h8) (fun _ g2 L2 f2 => pc_some f2)
theorem rsp_shift {p1 p2 : Int32} : Pc (fX11_shift_0 fu p1 p2 g L) (fun _ g1 _ => Rs S0 g g1) := by
  unfold fX11_shift_0
  refine rs_nd nd_l (fun _ _ => ?_)
  refine rs_nd nd_w (fun _ _ => ?_)
  exact pc_cb rs_shift (fun _ g2 L2 f2 => pc_some f2)
theorem rsp_harm {p1 p2 : Int32} : Pc (fX11_harm_0 fu p1 p2 g L) (fun _ g1 _ => Rs S0 g g1) := by
  unfold fX11_harm_0
  refine rs_nd nd_l (fun _ _ => ?_)
  refine rs_nd nd_l (fun _ _ => ?_)
  exact pc_cb rs_harm (fun _ g2 L2 f2 => pc_some f2)
theorem rsp_pair {p1 : Int32} : Pc (fX11_pair_0 fu p1 g L) (fun _ g1 _ => Rs S0 g g1) := by
  unfold fX11_pair_0
  refine rs_nd nd_w (fun _ _ => ?_)
  exact pc_cb rs_withoutTwo (fun _ g2 L2 f2 => pc_some f2)
theorem rsp_pause {p1 p2 : Int32} : Pc (fX11_pause_0 fu p1 p2 g L) (fun _ g1 _ => Rs S0 g g1) := by
  unfold fX11_pause_0
  refine rs_nd nd_w (fun _ _ => ?_)
  refine rs_nd nd_n (fun _ _ => ?_)
  exact pc_cb rs_pause (fun _ g2 L2 f2 => pc_some f2)
end PX
