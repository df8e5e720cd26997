section
/-! ===== the reference's trials put back what they changed ===== -/
def cZ (k j : Nat) : Prop := (k = 12 ∧ j < 48) ∨ k = 1 ∨ k = 2 ∨ (k = 0 ∧ (j = 52 ∨ j = 60 ∨ j = 61))
def Rm (S : Nat → Nat → Prop) (g g1 : gT) : Prop := ∀ k j, cZ k j → ¬ S k j → g1 k j = g k j
theorem Rm.refl {S : Nat → Nat → Prop} {g : gT} : Rm S g g := fun _ _ _ _ => rfl
theorem Rm.tr {S : Nat → Nat → Prop} {g g1 g2 : gT} (h1 : Rm S g g1) (h2 : Rm S g1 g2) : Rm S g g2 := fun k j a c => (h2 k j a c).trans (h1 k j a c)
theorem Rm.mo {S S' : Nat → Nat → Prop} {g g1 : gT} (h : Rm S g g1) (hS : ∀ k j, S k j → S' k j) : Rm S' g g1 := fun k j a c => h k j a (fun hs => c (hS k j hs))
theorem Rm.m0 {S : Nat → Nat → Prop} {g g1 : gT} (h : Rm S0 g g1) : Rm S g g1 := h.mo (fun _ _ h => absurd h id)
theorem Rm.st {S : Nat → Nat → Prop} {g g1 g2 : gT} {k i : Nat} {x : Int32} (h : Rm S g g1) (e : g2 = upd2 g1 k i x) (hS : S k i) : Rm S g g2 := fun a b hc hn => by
  rw [e]
  by_cases ha : a = k
  · subst ha
    by_cases hb : b = i
    · subst hb; exact absurd hS hn
    · rw [upd2_nj hb]; exact h a b hc hn
  · rw [upd2_nk ha]; exact h a b hc hn
theorem Rm.so {S : Nat → Nat → Prop} {g g1 g2 : gT} {k i : Nat} {x : Int32} (h : Rm S g g1) (e : g2 = upd2 g1 k i x) (hS : ¬ cZ k i) : Rm S g g2 := fun a b hc hn => by
  rw [e]
  by_cases ha : a = k
  · subst ha
    by_cases hb : b = i
    · subst hb; exact absurd hc hS
    · rw [upd2_nj hb]; exact h a b hc hn
  · rw [upd2_nk ha]; exact h a b hc hn
abbrev okZ (A : List (Nat × Nat)) (B : List Nat) : Prop := okw [1, 2, 12] [(0, 52), (0, 60), (0, 61)] A B = true
theorem Rm.f {S : Nat → Nat → Prop} {A : List (Nat × Nat)} {B : List Nat} {g g0 g1 : gT} (h : Rm S g g0) (f : FW A B g0 g1) (o : okZ A B) : Rm S g g1 := fun k j hc hn => by
  rw [← h k j hc hn]
  rcases hc with ⟨rfl, -⟩ | rfl | rfl | ⟨rfl, rfl | rfl | rfl⟩
  · rw [okw_c (k := 12) o f (by decide)]
  · rw [okw_c (k := 1) o f (by decide)]
  · rw [okw_c (k := 2) o f (by decide)]
  · exact okw_f o f (by decide)
  · exact okw_f o f (by decide)
  · exact okw_f o f (by decide)
theorem Rm.bk {S : Nat → Nat → Prop} {g g1 g2 : gT} {k i : Nat} {x : Int32} (h : Rm S g g1) (e : g2 = upd2 g1 k i x) (hx : x = g k i) : Rm (fun a b => S a b ∧ ¬ (a = k ∧ b = i)) g g2 := fun a b hc hn => by
  rw [e]
  by_cases ha : a = k
  · subst ha
    by_cases hb : b = i
    · subst hb; rw [upd2_at]; exact hx
    · rw [upd2_nj hb]; exact h a b hc (fun hs => hn ⟨hs, fun h => hb h.2⟩)
  · rw [upd2_nk ha]; exact h a b hc (fun hs => hn ⟨hs, fun h => ha h.1⟩)
theorem Rm.b1 {g g1 g2 : gT} {k i : Nat} {x : Int32} (h : Rm (S1 k i) g g1) (e : g2 = upd2 g1 k i x) (hx : x = g k i) : Rm S0 g g2 := (h.bk e hx).mo (fun _ _ h => h.2 h.1)
theorem pc_cnz {ρ : Type} {Q : ρ → gT → lT → Prop} {y : Int32} {K : Option (ρ × zS)} (h : Pc K Q) : Pc (cnz y K) Q := by
  unfold cnz
  split
  · exact pc_none
  · exact h
theorem cz_0 {j : Nat} (h1 : j ≠ 52) (h2 : j ≠ 60) (h3 : j ≠ 61) : ¬ cZ 0 j := fun h => by
  rcases h with ⟨h, -⟩ | h | h | ⟨-, h | h | h⟩
  · exact absurd h (by decide)
  · exact absurd h (by decide)
  · exact absurd h (by decide)
  · exact h1 h
  · exact h2 h
  · exact h3 h
theorem cz_12 {i : Nat} (h : i < 48) : cZ 12 i := Or.inl ⟨rfl, h⟩
theorem cz_n {k j : Nat} (h0 : k ≠ 0) (h1 : k ≠ 1) (h2 : k ≠ 2) (h12 : k ≠ 12) : ¬ cZ k j := fun h => by
  rcases h with ⟨h, -⟩ | h | h | ⟨h, -⟩
  · exact h12 h
  · exact h1 h
  · exact h2 h
  · exact h0 h
set_option maxHeartbeats 4000000 in
theorem uX12_copies_12_42 (fu : Nat) (hfu : 1180591620717411303424 ≤ fu) (g0 : Nat → Nat → Int32) (L0 : Nat → Nat → Int64) : Ex (fX12_copies_12_42 fu g0 L0) (fun (r : Unit) g1 L1 => g1 = cpd g0 12 42 48) := by
  unfold fX12_copies_12_42 fX12_copies_12_42_l2
  have e0 : (0 : Int32).toInt = 0 := by decide
  refine Ex.loop (α := Int32 × (Nat → Nat → Int32) × (Nat → Nat → Int64)) (fun v => (0 ≤ v.1.toInt ∧ v.1.toInt ≤ 48) ∧ v.2.1 = cpd g0 12 42 v.1.toNatClampNeg) (fun v => 49 - v.1.toInt) (by omega) (by show 49 - (0 : Int32).toInt < (fu : Int); omega) ⟨(show 0 ≤ (0 : Int32).toInt ∧ (0 : Int32).toInt ≤ 48 from by omega), (cpd_0 g0 12 42).symm⟩ (fun k2 v hv ih => ?_)
  obtain ⟨v3, g, L⟩ := v
  obtain ⟨hb, hg⟩ := hv
  have hb : 0 ≤ v3.toInt ∧ v3.toInt ≤ 48 := hb
  have hg : g = cpd g0 12 42 v3.toNatClampNeg := hg
  show Ex (fX12_copies_12_42_s2 fu k2 v3 g L) _
  unfold fX12_copies_12_42_s2
  refine Ex.ite (fun c => ?_) (fun c => ?_)
  · have c := icc_le (m := 48) (n := v3.toInt) (by decide) rfl c
    have n12 : v3.toNatClampNeg = 48 := by rw [nc]; omega
    rw [n12] at hg
    exact Ex.ret hg
  · have c := icc_nle (m := 48) (n := v3.toInt) (by decide) rfl c
    refine Ex.ck (by omega) (by omega) (Ex.ck (by omega) (by omega) ?_)
    refine Ex.sti z_none (fun g2 g2e _ => ?_)
    generalize hw : v3 + 1 = w
    have ew : w.toInt = v3.toInt + 1 := by rw [← hw]; exact ic_addc rfl (by decide) (by omega) (by omega)
    have nw : w.toNatClampNeg = v3.toNatClampNeg + 1 := by rw [nc, nc]; omega
    refine ih (w, g2, L) ⟨(show 0 ≤ w.toInt ∧ w.toInt ≤ 48 from by omega), ?_⟩ (by show 49 - w.toInt < 49 - v3.toInt; omega) (by show 0 < 49 - v3.toInt; omega)
    show g2 = cpd g0 12 42 w.toNatClampNeg
    rw [nw, g2e, hg]; exact cpd_s g0 (by decide) v3.toNatClampNeg
set_option maxHeartbeats 4000000 in
theorem uX12_copies_42_12 (fu : Nat) (hfu : 1180591620717411303424 ≤ fu) (g0 : Nat → Nat → Int32) (L0 : Nat → Nat → Int64) : Ex (fX12_copies_42_12 fu g0 L0) (fun (r : Unit) g1 L1 => g1 = cpd g0 42 12 48) := by
  unfold fX12_copies_42_12 fX12_copies_42_12_l2
  have e0 : (0 : Int32).toInt = 0 := by decide
  refine Ex.loop (α := Int32 × (Nat → Nat → Int32) × (Nat → Nat → Int64)) (fun v => (0 ≤ v.1.toInt ∧ v.1.toInt ≤ 48) ∧ v.2.1 = cpd g0 42 12 v.1.toNatClampNeg) (fun v => 49 - v.1.toInt) (by omega) (by show 49 - (0 : Int32).toInt < (fu : Int); omega) ⟨(show 0 ≤ (0 : Int32).toInt ∧ (0 : Int32).toInt ≤ 48 from by omega), (cpd_0 g0 42 12).symm⟩ (fun k2 v hv ih => ?_)
  obtain ⟨v3, g, L⟩ := v
  obtain ⟨hb, hg⟩ := hv
  have hb : 0 ≤ v3.toInt ∧ v3.toInt ≤ 48 := hb
  have hg : g = cpd g0 42 12 v3.toNatClampNeg := hg
  show Ex (fX12_copies_42_12_s2 fu k2 v3 g L) _
  unfold fX12_copies_42_12_s2
  refine Ex.ite (fun c => ?_) (fun c => ?_)
  · have c := icc_le (m := 48) (n := v3.toInt) (by decide) rfl c
    have n12 : v3.toNatClampNeg = 48 := by rw [nc]; omega
    rw [n12] at hg
    exact Ex.ret hg
  · have c := icc_nle (m := 48) (n := v3.toInt) (by decide) rfl c
    refine Ex.ck (by omega) (by omega) (Ex.ck (by omega) (by omega) ?_)
    refine Ex.sti z_none (fun g2 g2e _ => ?_)
    generalize hw : v3 + 1 = w
    have ew : w.toInt = v3.toInt + 1 := by rw [← hw]; exact ic_addc rfl (by decide) (by omega) (by omega)
    have nw : w.toNatClampNeg = v3.toNatClampNeg + 1 := by rw [nc, nc]; omega
    refine ih (w, g2, L) ⟨(show 0 ≤ w.toInt ∧ w.toInt ≤ 48 from by omega), ?_⟩ (by show 49 - w.toInt < 49 - v3.toInt; omega) (by show 0 < 49 - v3.toInt; omega)
    show g2 = cpd g0 42 12 w.toNatClampNeg
    rw [nw, g2e, hg]; exact cpd_s g0 (by decide) v3.toNatClampNeg
section RM
variable {fu : Nat} {g : gT} {L : lT}
theorem rm_moreBy {p1 p2 : Int32} (h61 : g 0 61 = -1) : Pc (fX12_moreBy fu p1 p2 g L) (fun _ g1 _ => Rm S0 g g1) := by
  unfold fX12_moreBy
  refine pc_cb (pc_kp (w_fX12_works0 _ _ _ _ FW.refl)) (fun _ g2 L2 f2 => pc_cb (pc_kp (w_fX12_copies_32_37 _ _ _ _ FW.refl)) (fun _ g6 L6 f6 => pc_cb (pc_kp (w_fX12_lates _ _ _ _ FW.refl)) (fun _ g10 L10 f10 => pc_ck (fun a1 a2 => pc_ck (fun _ _ => pc_st (fun g13 e13 => pc_st (fun g14 e14 => pc_cb (pc_kp (w_fX12_works0 _ _ _ _ FW.refl)) (fun _ g16 L16 f16 => pc_st (fun g19 e19 => pc_ck (fun _ _ => pc_ck (fun _ _ => pc_st (fun g20 e20 => pc_cb (pc_kp (w_fX12_lates _ _ _ _ FW.refl)) (fun _ g22 L22 f22 => pc_some ?_)))))))))))))
  have h10 : Rm S0 g g10 := ((Rm.refl.f f2 (by decide)).f f6 (by decide)).f f10 (by decide)
  have hi : (0 + p1).toNatClampNeg < 48 := by rw [nc]; omega
  generalize (0 + p1).toNatClampNeg = i at *
  have r16 : Rm (S1 0 61) g13 g16 := (Rm.refl.st e14 ⟨rfl, rfl⟩).f f16 (by decide)
  have e61 : g13 0 61 = -1 := by rw [e13, upd2_nk (by decide), h10 0 61 (Or.inr (Or.inr (Or.inr ⟨rfl, Or.inr (Or.inr rfl)⟩))) id]; exact h61
  have r19 : Rm S0 g13 g19 := r16.b1 e19 e61.symm
  have v : g19 12 i - p2 = g10 12 i := by rw [r19 12 i (cz_12 hi) id, e13, upd2_at, Int32.add_sub_cancel]
  have r20 : Rm S0 g10 g20 := ((Rm.refl.st e13 (S := S1 12 i) ⟨rfl, rfl⟩).tr r19.m0).b1 e20 v
  exact (h10.tr r20).f f22 (by decide)
theorem m61 {g1 : gT} (h : Rm S0 g g1) : g1 0 61 = g 0 61 := h 0 61 (Or.inr (Or.inr (Or.inr ⟨rfl, Or.inr (Or.inr rfl)⟩))) id
theorem m60 {g1 : gT} (h : Rm S0 g g1) : g1 0 60 = g 0 60 := h 0 60 (Or.inr (Or.inr (Or.inr ⟨rfl, Or.inr (Or.inl rfl)⟩))) id
theorem rm_far {p1 p2 p3 : Int32} (h61 : g 0 61 = -1) : Pc (fX12_far fu p1 p2 p3 g L) (fun _ g1 _ => Rm S0 g g1) := by
  unfold fX12_far fX12_far_p37 fX12_far_p60
  refine pc_st (fun g1 e1 => pc_cb (pc_kp (w_fX12_isLesson _ _ _ _ _ FW.refl)) (fun _ g3 L3 f3 => ?_))
  have h3 : Rm S0 g g3 := (Rm.refl.so e1 (cz_0 (by decide) (by decide) (by decide))).f f3 (by decide)
  refine pc_ite (fun _ => pc_some h3) (fun _ => pc_cb (pc_kp (w_fX12_isWhat _ _ _ _ _ _ FW.refl)) (fun _ g8 L8 f8 => ?_))
  have h8 := h3.f f8 (by decide)
  refine pc_ite (fun _ => pc_some h8) (fun _ => pc_cb (pc_kp (w_fX12_within _ _ _ _ _ _ _ FW.refl)) (fun _ g13 L13 f13 => pc_cb (pc_kp (w_fX12_right _ _ _ _ _ _ FW.refl)) (fun _ g17 L17 f17 => ?_)))
  have h17 := (h8.f f13 (by decide)).f f17 (by decide)
  refine pc_ite (fun _ => pc_some h17) (fun _ => pc_cb (rm_moreBy (by rw [m61 h17]; exact h61)) (fun _ g22 L22 f22 => ?_))
  exact pc_ite (fun _ => pc_cb (pc_kp (w_fX12_later _ _ _ _ FW.refl)) (fun _ g27 L27 f27 => pc_some ((h17.tr f22).f f27 (by decide)))) (fun _ => pc_some (h17.tr f22))
theorem rm_reaches {p1 p2 : Int32} (h61 : g 0 61 = -1) : Pc (fX12_reaches fu p1 p2 g L) (fun _ g1 _ => Rm S0 g g1) := by
  unfold fX12_reaches fX12_reaches_p32 fX12_reaches_p39
  refine pc_st (fun g1 e1 => pc_cb (pc_kp (w_fX12_isLesson _ _ _ _ _ FW.refl)) (fun _ g3 L3 f3 => ?_))
  have h3 : Rm S0 g g3 := (Rm.refl.so e1 (cz_0 (by decide) (by decide) (by decide))).f f3 (by decide)
  refine pc_ite (fun _ => pc_some h3) (fun _ => pc_cb (pc_kp (w_fX12_isLesson _ _ _ _ _ FW.refl)) (fun _ g8 L8 f8 => ?_))
  have h8 := h3.f f8 (by decide)
  have go : ∀ t0 : Int32, Pc (cb (fX12_right fu t0 2 g8 L8) (fun x12 g13 L14 => if x12 = 0 then some (0, (g13, L14)) else fX12_reaches_l43 fu p1 p2 1 g13 L14)) (fun _ g1 _ => Rm S0 g g1) := by
    intro t0
    refine pc_cb (pc_kp (w_fX12_right _ _ _ _ _ _ FW.refl)) (fun _ g13 L13 f13 => ?_)
    have h13 := h8.f f13 (by decide)
    refine pc_ite (fun _ => pc_some h13) (fun _ => ?_)
    unfold fX12_reaches_l43
    refine pc_loop (fun v => Rm S0 g v.2.1) (fun k hk v hv => ?_) h13
    obtain ⟨v3, g', L'⟩ := v
    replace hv : Rm S0 g g' := hv
    show Pc (fX12_reaches_s43 fu p1 p2 k v3 g' L') _
    unfold fX12_reaches_s43
    refine pc_ite (fun _ => pc_some hv) (fun _ => pc_cb (rm_moreBy (by rw [m61 hv]; exact h61)) (fun _ ga La fa => pc_cb (pc_kp (w_fX12_later _ _ _ _ FW.refl)) (fun _ gb Lb fb => ?_)))
    have hb := (hv.tr fa).f fb (by decide)
    exact pc_ite (fun _ => pc_some hb) (fun _ => hk _ hb)
  exact pc_ite (fun _ => pc_some h8) (fun _ => pc_ite (fun _ => go 0) (fun _ => go 1))
theorem rm_slack {p1 : Int32} (h61 : g 0 61 = -1) : Pc (fX12_slack fu p1 g L) (fun _ g1 _ => Rm S0 g g1) := by
  unfold fX12_slack
  refine pc_st (fun g1 e1 => pc_cb (pc_kp (w_fX12_isLesson _ _ _ _ _ FW.refl)) (fun _ g3 L3 f3 => ?_))
  have h3 : Rm S0 g g3 := (Rm.refl.so e1 (cz_0 (by decide) (by decide) (by decide))).f f3 (by decide)
  refine pc_ite (fun _ => pc_some h3) (fun _ => ?_)
  unfold fX12_slack_l18
  refine pc_loop (fun v => Rm S0 g v.2.1) (fun k hk v hv => ?_) h3
  obtain ⟨v3, g', L'⟩ := v
  replace hv : Rm S0 g g' := hv
  show Pc (fX12_slack_s18 fu p1 k v3 g' L') _
  unfold fX12_slack_s18
  refine pc_ite (fun _ => pc_some hv) (fun _ => pc_cb (rm_moreBy (by rw [m61 hv]; exact h61)) (fun _ ga La fa => pc_cb (pc_kp (w_fX12_later _ _ _ _ FW.refl)) (fun _ gb Lb fb => ?_)))
  have hb := (hv.tr fa).f fb (by decide)
  exact pc_ite (fun _ => pc_some hb) (fun _ => hk _ hb)
/-- two are swapped -/
theorem swaps_m {p1 p2 : Int32} : Pc (fX12_swaps fu p1 p2 g L) (fun _ g1 _ => (0 + p1).toNatClampNeg < 48 ∧ (0 + p2).toNatClampNeg < 48 ∧ g1 = upd2 (upd2 g 12 (0 + p1).toNatClampNeg (g 12 (0 + p2).toNatClampNeg)) 12 (0 + p2).toNatClampNeg (g 12 (0 + p1).toNatClampNeg)) := by
  unfold fX12_swaps
  refine pc_ck (fun a1 a2 => pc_lti (fun x ex => pc_ck (fun b1 b2 => pc_ck (fun _ _ => pc_st (fun g2 e2 => pc_ck (fun _ _ => pc_st (fun g3 e3 => pc_some ⟨by rw [nc]; omega, by rw [nc]; omega, ?_⟩)))))))
  rw [e3, e2, ex]
theorem rm_swap {p1 : Int32} : Pc (fX12_swap fu p1 g L) (fun _ g1 _ => Rm S0 g g1) := by
  unfold fX12_swap
  refine pc_st (fun g1 e1 => pc_cb (pc_kp (w_fX12_isWhat _ _ _ _ _ _ FW.refl)) (fun _ g3 L3 f3 => ?_))
  have h3 : Rm S0 g g3 := (Rm.refl.so e1 (cz_0 (by decide) (by decide) (by decide))).f f3 (by decide)
  refine pc_ite (fun _ => pc_some h3) (fun _ => pc_cb (pc_kp (w_fX12_lost _ _ _ _ FW.refl)) (fun x7 g8 L8 f8 => ?_))
  unfold fX12_swap_l26
  refine pc_loop (fun v => Rm S0 g v.2.2.2.1) (fun k hk v hv => ?_) (h3.f f8 (by decide))
  obtain ⟨v2, v3, v4, g', L'⟩ := v
  replace hv : Rm S0 g g' := hv
  show Pc (fX12_swap_s26 fu p1 k v2 v3 v4 g' L') _
  unfold fX12_swap_s26 fX12_swap_p114 fX12_swap_p119
  refine pc_ite (fun _ => pc_ite (fun _ => pc_some hv) (fun _ => pc_ite (fun _ => pc_some hv) (fun _ => pc_some hv))) (fun _ => pc_lti (fun x14 _ => ?_))
  unfold fX12_swap_l41
  refine pc_loop (fun v => Rm S0 g v.2.2.2.1) (fun k41 hk41 v hv => ?_) hv
  obtain ⟨w2, w3, w5, ga, La⟩ := v
  replace hv : Rm S0 g ga := hv
  show Pc (fX12_swap_s41 fu k p1 v4 k41 w2 w3 w5 ga La) _
  unfold fX12_swap_s41 fX12_swap_p93
  refine pc_ite (fun _ => hk _ hv) (fun _ => pc_cb swaps_m (fun _ gb Lb fb => pc_cb (pc_kp (w_fX12_lost _ _ _ _ FW.refl)) (fun _ gd Ld fd => pc_cb swaps_m (fun _ ge Le fe => ?_))))
  have key : Rm S0 ga ge := by
    obtain ⟨h1, h2, eb⟩ := fb
    obtain ⟨-, -, ee⟩ := fe
    have hd : Rm S0 gb gd := Rm.refl.f fd (by decide)
    generalize (0 + v4).toNatClampNeg = i at *
    generalize (0 + w5).toNatClampNeg = j at *
    have di : gd 12 i = gb 12 i := hd 12 i (cz_12 h1) id
    have dj : gd 12 j = gb 12 j := hd 12 j (cz_12 h2) id
    have bj : gb 12 j = ga 12 i := by rw [eb, upd2_at]
    have bi : gb 12 i = ga 12 j := by
      rw [eb]
      by_cases e : i = j
      · rw [e, upd2_at]
      · rw [upd2_nj e, upd2_at]
    intro a b hc hn
    rw [ee]
    by_cases hk : a = 12
    · subst hk
      by_cases hj : b = j
      · rw [hj, upd2_at, di, bi]
      · rw [upd2_nj hj]
        by_cases hi : b = i
        · rw [hi, upd2_at, dj, bj]
        · rw [upd2_nj hi, hd 12 b hc id, eb, upd2_nj hj, upd2_nj hi]
    · rw [upd2_nk hk, upd2_nk hk, hd a b hc id, eb, upd2_nk hk, upd2_nk hk]
  exact pc_ite (fun _ => pc_lti (fun _ _ => hk41 _ (hv.tr key))) (fun _ => hk41 _ (hv.tr key))
theorem rm_bestOf {p1 p2 p3 : Int32} : Pc (fX12_bestOf fu p1 p2 p3 g L) (fun _ g1 _ => Rm S0 g g1) := by
  unfold fX12_bestOf
  refine pc_ck (fun _ _ => pc_lti (fun x1 ex => ?_))
  unfold fX12_bestOf_l17
  refine pc_loop (fun v => Rm (S1 12 p1.toNatClampNeg) g v.2.2.2.1) (fun k hk v hv => ?_) Rm.refl
  obtain ⟨v5, v6, v7, g', L'⟩ := v
  replace hv : Rm (S1 12 p1.toNatClampNeg) g g' := hv
  show Pc (fX12_bestOf_s17 fu p1 p2 p3 x1 k v5 v6 v7 g' L') _
  unfold fX12_bestOf_s17 fX12_bestOf_p86 fX12_bestOf_p53 fX12_bestOf_p61
  refine pc_ite (fun _ => pc_ck (fun _ _ => pc_st (fun ga ea => pc_ite (fun _ => pc_some (hv.b1 ea ex)) (fun _ => pc_some (hv.b1 ea ex))))) (fun _ => pc_ck (fun _ _ => pc_st (fun ga ea => pc_cb (pc_kp (w_fX12_lost _ _ _ _ FW.refl)) (fun _ gb Lb fb => ?_))))
  have hb := (hv.st ea ⟨rfl, rfl⟩).f fb (by decide)
  exact pc_ite (fun _ => hk _ hb) (fun _ => pc_ite (fun _ => hk _ hb) (fun _ => hk _ hb))
theorem rm_room {p1 p2 : Int32} : Pc (fX12_room fu p1 p2 g L) (fun _ g1 _ => Rm S0 g g1) := by
  unfold fX12_room fX12_room_p36 fX12_room_p37
  refine pc_st (fun g1 e1 => pc_cb (pc_kp (w_fX12_isLesson _ _ _ _ _ FW.refl)) (fun _ g3 L3 f3 => ?_))
  have h3 : Rm S0 g g3 := (Rm.refl.so e1 (cz_0 (by decide) (by decide) (by decide))).f f3 (by decide)
  refine pc_ite (fun _ => pc_some h3) (fun _ => pc_cb (pc_kp (w_fX12_isWhat _ _ _ _ _ _ FW.refl)) (fun _ g8 L8 f8 => ?_))
  have h8 := h3.f f8 (by decide)
  exact pc_ite (fun _ => pc_some h8) (fun _ => pc_cb rm_bestOf (fun _ ga La fa => pc_some (h8.tr fa)))
theorem rm_limit {p1 p2 : Int32} : Pc (fX12_limit fu p1 p2 g L) (fun _ g1 _ => Rm S0 g g1) := by
  unfold fX12_limit fX12_limit_p36 fX12_limit_p37
  refine pc_st (fun g1 e1 => pc_cb (pc_kp (w_fX12_isLesson _ _ _ _ _ FW.refl)) (fun _ g3 L3 f3 => ?_))
  have h3 : Rm S0 g g3 := (Rm.refl.so e1 (cz_0 (by decide) (by decide) (by decide))).f f3 (by decide)
  refine pc_ite (fun _ => pc_some h3) (fun _ => pc_cb (pc_kp (w_fX12_isWhat _ _ _ _ _ _ FW.refl)) (fun _ g8 L8 f8 => ?_))
  have h8 := h3.f f8 (by decide)
  exact pc_ite (fun _ => pc_some h8) (fun _ => pc_cb rm_bestOf (fun _ ga La fa => pc_some (h8.tr fa)))
theorem rm_last : Pc (fX12_last fu g L) (fun _ g1 _ => Rm S0 g g1) := by
  unfold fX12_last fX12_last_l11
  refine pc_st (fun g1 e1 => ?_)
  refine pc_loop (fun v => Rm S0 g v.2.2.2.1) (fun k hk v hv => ?_) (Rm.refl.so e1 (cz_0 (by decide) (by decide) (by decide)))
  obtain ⟨v1, v2, v3, g', L'⟩ := v
  replace hv : Rm S0 g g' := hv
  show Pc (fX12_last_s11 fu k v1 v2 v3 g' L') _
  unfold fX12_last_s11 fX12_last_p68 fX12_last_p73
  refine pc_ite (fun _ => pc_some hv) (fun _ => pc_ck (fun a1 a2 => pc_lti (fun x3 ex => pc_ck (fun _ _ => pc_st (fun ga ea => pc_cb (pc_kp (w_fX12_lost _ _ _ _ FW.refl)) (fun _ gb Lb fb => pc_ck (fun _ _ => pc_st (fun gc ec => ?_))))))))
  have hc := hv.tr (((Rm.refl.st ea (S := S1 12 (0 + v3).toNatClampNeg) ⟨rfl, rfl⟩).f fb (by decide)).b1 ec ex)
  exact pc_ite (fun _ => hk _ hc) (fun _ => pc_ite (fun _ => hk _ hc) (fun _ => hk _ hc))
theorem rm_lostBy {p1 : Int32} : Pc (fX12_lostBy fu p1 g L) (fun _ g1 _ => Rm S0 g g1) := by
  unfold fX12_lostBy
  refine pc_lti (fun x1 ex => pc_st (fun ga ea => pc_cb (pc_kp (w_fX12_lost _ _ _ _ FW.refl)) (fun _ gb Lb fb => pc_st (fun gc ec => pc_some ?_))))
  exact ((Rm.refl.st ea (S := S1 0 52) ⟨rfl, rfl⟩).f fb (by decide)).b1 ec ex
theorem rm_compare {p1 : Int32} : Pc (fX12_compare fu p1 g L) (fun _ g1 _ => Rm S0 g g1) := by
  unfold fX12_compare fX12_compare_p23 fX12_compare_p24 fX12_compare_p40
  refine pc_st (fun g1 e1 => ?_)
  have h1 : Rm S0 g g1 := Rm.refl.so e1 (cz_0 (by decide) (by decide) (by decide))
  have go : ∀ t0 : Int32, Pc (cb (fX12_right fu t0 1 g1 L) (fun x2 g3 L4 => if x2 = 0 then some ((0 : Int32), (g3, L4)) else cb (fX12_lostBy fu p1 g3 L4) (fun x7 g8 L9 => some (x7, (g8, L9))))) (fun _ g1 _ => Rm S0 g g1) := by
    intro t0
    refine pc_cb (pc_kp (w_fX12_right _ _ _ _ _ _ FW.refl)) (fun _ g3 L3 f3 => ?_)
    have h3 := h1.f f3 (by decide)
    exact pc_ite (fun _ => pc_some h3) (fun _ => pc_cb rm_lostBy (fun _ ga La fa => pc_some (h3.tr fa)))
  exact pc_ite (fun _ => go 0) (fun _ => pc_ite (fun _ => go 0) (fun _ => go 1))
theorem rm_best : Pc (fX12_best fu g L) (fun _ g1 _ => Rm S0 g g1) := by
  unfold fX12_best fX12_best_l9
  refine pc_st (fun g1 e1 => ?_)
  refine pc_loop (fun v => Rm S0 g v.2.2.1) (fun k hk v hv => ?_) (Rm.refl.so e1 (cz_0 (by decide) (by decide) (by decide)))
  obtain ⟨v1, v2, g', L'⟩ := v
  replace hv : Rm S0 g g' := hv
  show Pc (fX12_best_s9 fu k v1 v2 g' L') _
  unfold fX12_best_s9 fX12_best_p32
  refine pc_ite (fun _ => pc_some hv) (fun _ => pc_cb rm_lostBy (fun _ ga La fa => pc_cb rm_lostBy (fun _ gb Lb fb => ?_)))
  exact pc_ite (fun _ => hk _ ((hv.tr fa).tr fb)) (fun _ => hk _ ((hv.tr fa).tr fb))
/-- kept aside -/
theorem cp_12 (hfu : 1180591620717411303424 ≤ fu) : Pc (fX12_copies_12_42 fu g L) (fun _ g1 _ => Rm S0 g g1 ∧ ∀ j, j < 48 → g1 42 j = g 12 j) := by
  refine pc_mo (pc_ex (uX12_copies_12_42 fu hfu g L)) (fun _ g1 _ e => ?_)
  rw [e]
  refine ⟨fun k j hc _ => ?_, fun j hj => cpd_at hj⟩
  rw [cpd_ne (by rcases hc with ⟨h, -⟩ | h | h | ⟨h, -⟩ <;> omega)]
theorem cp_42 (hfu : 1180591620717411303424 ≤ fu) {g0 : gT} (h : Rm (fun a _ => a = 12) g0 g) (h42 : ∀ j, j < 48 → g 42 j = g0 12 j) : Pc (fX12_copies_42_12 fu g L) (fun _ g1 _ => Rm S0 g0 g1 ∧ ∀ j, j < 48 → g1 42 j = g0 12 j) := by
  refine pc_mo (pc_ex (uX12_copies_42_12 fu hfu g L)) (fun _ g1 _ e => ?_)
  rw [e]
  refine ⟨fun k j hc _ => ?_, fun j hj => by rw [cpd_ne (by decide)]; exact h42 j hj⟩
  by_cases hk : k = 12
  · subst hk
    have hj : j < 48 := by
      rcases hc with ⟨-, h⟩ | h | h | ⟨h, -⟩
      · exact h
      · exact absurd h (by decide)
      · exact absurd h (by decide)
      · exact absurd h (by decide)
    rw [cpd_at hj]; exact h42 j hj
  · rw [cpd_ne hk]; exact h k j hc hk
theorem rm_bell (hfu : 1180591620717411303424 ≤ fu) {p1 : Int32} : Pc (fX12_bell fu p1 g L) (fun _ g1 _ => Rm S0 g g1) := by
  unfold fX12_bell
  refine pc_st (fun g1 e1 => pc_cb (pc_kp (w_fX12_within _ _ _ _ _ _ _ FW.refl)) (fun _ g3 L3 f3 => pc_cb (pc_kp (w_fX12_right _ _ _ _ _ _ FW.refl)) (fun _ g7 L7 f7 => ?_)))
  have h7 : Rm S0 g g7 := ((Rm.refl.so e1 (cz_0 (by decide) (by decide) (by decide))).f f3 (by decide)).f f7 (by decide)
  refine pc_ite (fun _ => pc_some h7) (fun _ => pc_cb (pc_kp (w_fX12_lost _ _ _ _ FW.refl)) (fun x11 g12 L12 f12 => pc_cb (cp_12 hfu) (fun _ g16 L16 f16 => ?_)))
  have h12 := h7.f f12 (by decide)
  unfold fX12_bell_l41
  refine pc_loop (fun v => Rm (fun a _ => a = 12) g v.2.1 ∧ ∀ j, j < 48 → v.2.1 42 j = g 12 j) (fun k hk v hv => ?_) ⟨(h12.tr f16.1).m0, fun j hj => (f16.2 j hj).trans (h12 12 j (cz_12 hj) id)⟩
  obtain ⟨v3, g', L'⟩ := v
  obtain ⟨hv, hs⟩ := hv
  replace hv : Rm (fun a _ => a = 12) g g' := hv
  replace hs : ∀ j, j < 48 → g' 42 j = g 12 j := hs
  show Pc (fX12_bell_s41 fu p1 x11 k v3 g' L') _
  unfold fX12_bell_s41 fX12_bell_p70
  refine pc_ite (fun _ => pc_cb (pc_kp (w_fX12_lost _ _ _ _ FW.refl)) (fun _ ga La fa => pc_lti (fun _ _ => pc_cb (cp_42 hfu (hv.f fa (by decide)) (fun j hj => by rw [fa.c (k := 42) (by decide) (by decide)]; exact hs j hj)) (fun _ gb Lb fb => pc_some fb.1)))) (fun _ => pc_ck (fun _ _ => pc_ite (fun _ => hk _ ⟨hv, hs⟩) (fun _ => pc_ck (fun _ _ => pc_st (fun ga ea => hk _ ⟨hv.st ea rfl, fun j hj => ?_⟩)))))
  show ga 42 j = g 12 j
  rw [ea, upd2_nk (by decide)]; exact hs j hj
theorem rm_harm {p1 p2 : Int32} : Pc (fX12_harm fu p1 p2 g L) (fun _ g1 _ => Rm S0 g g1) := by
  unfold fX12_harm fX12_harm_p21
  refine pc_st (fun g1 e1 => pc_cb (pc_kp (w_fX12_isLesson _ _ _ _ _ FW.refl)) (fun _ g3 L3 f3 => ?_))
  have h3 : Rm S0 g g3 := (Rm.refl.so e1 (cz_0 (by decide) (by decide) (by decide))).f f3 (by decide)
  refine pc_ite (fun _ => pc_some h3) (fun _ => pc_cb (pc_kp (w_fX12_isLesson _ _ _ _ _ FW.refl)) (fun _ g8 L8 f8 => ?_))
  have h8 := h3.f f8 (by decide)
  refine pc_ite (fun _ => pc_some h8) (fun _ => pc_cb (pc_kp (w_fX12_works0 _ _ _ _ FW.refl)) (fun _ g13 L13 f13 => pc_cb (pc_kp (w_fX12_late _ _ _ _ _ FW.refl)) (fun _ g17 L17 f17 => pc_ck (fun a1 a2 => pc_lti (fun x20 ex => pc_ck (fun _ _ => pc_st (fun g21 e21 => pc_cb (pc_kp (w_fX12_works0 _ _ _ _ FW.refl)) (fun _ g23 L23 f23 => pc_ck (fun _ _ => pc_st (fun g26 e26 => pc_cb (pc_kp (w_fX12_late _ _ _ _ _ FW.refl)) (fun _ g28 L28 f28 => pc_some ?_)))))))))))
  have h17 := (h8.f f13 (by decide)).f f17 (by decide)
  exact (h17.tr (((Rm.refl.st e21 (S := S1 12 (0 + p1).toNatClampNeg) ⟨rfl, rfl⟩).f f23 (by decide)).b1 e26 ex)).f f28 (by decide)
theorem rm_pair (hfu : 1180591620717411303424 ≤ fu) {p1 : Int32} : Pc (fX12_pair fu p1 g L) (fun _ g1 _ => Rm S0 g g1) := by
  unfold fX12_pair
  refine pc_st (fun g1 e1 => pc_cb (pc_kp (w_fX12_isWhat _ _ _ _ _ _ FW.refl)) (fun _ g3 L3 f3 => ?_))
  have h3 : Rm S0 g g3 := (Rm.refl.so e1 (cz_0 (by decide) (by decide) (by decide))).f f3 (by decide)
  refine pc_ite (fun _ => pc_some h3) (fun _ => pc_cb (cp_12 hfu) (fun _ g8 L8 f8 => ?_))
  unfold fX12_pair_l35
  refine pc_loop (fun v => Rm S0 g v.2.2.2.1 ∧ ∀ j, j < 48 → v.2.2.2.1 42 j = g 12 j) (fun k hk v hv => ?_) ⟨h3.tr f8.1, fun j hj => (f8.2 j hj).trans (h3 12 j (cz_12 hj) id)⟩
  obtain ⟨v2, v3, v4, g', L'⟩ := v
  obtain ⟨hv, hs⟩ := hv
  replace hv : Rm S0 g g' := hv
  replace hs : ∀ j, j < 48 → g' 42 j = g 12 j := hs
  show Pc (fX12_pair_s35 fu p1 k v2 v3 v4 g' L') _
  unfold fX12_pair_s35 fX12_pair_p144 fX12_pair_p149
  refine pc_ite (fun _ => pc_ite (fun _ => pc_some hv) (fun _ => pc_ite (fun _ => pc_some hv) (fun _ => pc_some hv))) (fun _ => pc_lti (fun x14 _ => ?_))
  unfold fX12_pair_l50
  refine pc_loop (fun v => Rm S0 g v.2.2.2.1 ∧ ∀ j, j < 48 → v.2.2.2.1 42 j = g 12 j) (fun k50 hk50 v hv => ?_) ⟨hv, hs⟩
  obtain ⟨w2, w3, w5, g', L'⟩ := v
  obtain ⟨hv, hs⟩ := hv
  replace hv : Rm S0 g g' := hv
  replace hs : ∀ j, j < 48 → g' 42 j = g 12 j := hs
  show Pc (fX12_pair_s50 fu k p1 v4 k50 w2 w3 w5 g' L') _
  unfold fX12_pair_s50 fX12_pair_p111 fX12_pair_p123
  refine pc_ite (fun _ => hk _ ⟨hv, hs⟩) (fun _ => pc_ck (fun _ _ => pc_st (fun ga ea => pc_ck (fun _ _ => pc_st (fun gb eb => pc_cb (pc_kp (w_fX12_lost _ _ _ _ FW.refl)) (fun _ gc Lc fc => pc_cb (cp_42 hfu (((hv.m0.st ea rfl).st eb rfl).f fc (by decide)) (fun j hj => by rw [fc.c (k := 42) (by decide) (by decide), eb, upd2_nk (by decide), ea, upd2_nk (by decide)]; exact hs j hj)) (fun _ gd Ld fd => ?_)))))))
  exact pc_ite (fun _ => pc_lti (fun _ _ => hk50 _ fd)) (fun _ => pc_ite (fun _ => pc_lti (fun _ _ => hk50 _ fd)) (fun _ => hk50 _ fd))
theorem rm_pause (hfu : 1180591620717411303424 ≤ fu) {p1 p2 : Int32} : Pc (fX12_pause fu p1 p2 g L) (fun _ g1 _ => Rm S0 g g1) := by
  unfold fX12_pause fX12_pause_p29
  refine pc_st (fun g1 e1 => pc_cb (pc_kp (w_fX12_isWhat _ _ _ _ _ _ FW.refl)) (fun _ g3 L3 f3 => ?_))
  have h3 : Rm S0 g g3 := (Rm.refl.so e1 (cz_0 (by decide) (by decide) (by decide))).f f3 (by decide)
  refine pc_ite (fun _ => pc_some h3) (fun _ => pc_cb (pc_kp (w_fX12_within _ _ _ _ _ _ _ FW.refl)) (fun _ g8 L8 f8 => pc_cb (pc_kp (w_fX12_right _ _ _ _ _ _ FW.refl)) (fun _ g12 L12 f12 => ?_)))
  have h12 := (h3.f f8 (by decide)).f f12 (by decide)
  refine pc_ite (fun _ => pc_some h12) (fun _ => pc_cb (cp_12 hfu) (fun _ g17 L17 f17 => ?_))
  unfold fX12_pause_l51
  refine pc_loop (fun v => Rm S0 g v.2.2.2.1 ∧ ∀ j, j < 48 → v.2.2.2.1 42 j = g 12 j) (fun k hk v hv => ?_) ⟨h12.tr f17.1, fun j hj => (f17.2 j hj).trans (h12 12 j (cz_12 hj) id)⟩
  obtain ⟨v3, v4, v5, g', L'⟩ := v
  obtain ⟨hv, hs⟩ := hv
  replace hv : Rm S0 g g' := hv
  replace hs : ∀ j, j < 48 → g' 42 j = g 12 j := hs
  show Pc (fX12_pause_s51 fu p1 p2 k v3 v4 v5 g' L') _
  unfold fX12_pause_s51 fX12_pause_p191 fX12_pause_p197
  refine pc_ite (fun _ => pc_ite (fun _ => pc_some hv) (fun _ => pc_ite (fun _ => pc_some hv) (fun _ => pc_some hv))) (fun _ => ?_)
  unfold fX12_pause_l63
  refine pc_loop (fun v => Rm (fun a _ => a = 12) g v.2.1 ∧ ∀ j, j < 48 → v.2.1 42 j = g 12 j) (fun k63 hk63 v hv => ?_) ⟨hv.m0, hs⟩
  obtain ⟨v6, g', L'⟩ := v
  obtain ⟨hv, hs⟩ := hv
  replace hv : Rm (fun a _ => a = 12) g g' := hv
  replace hs : ∀ j, j < 48 → g' 42 j = g 12 j := hs
  show Pc (fX12_pause_s63 fu k p1 p2 v3 v4 v5 k63 v6 g' L') _
  unfold fX12_pause_s63 fX12_pause_p164 fX12_pause_p176 fX12_pause_p105
  have st : ∀ (ga : gT) (i : Nat) (x : Int32), ga = upd2 g' 12 i x → Rm (fun a _ => a = 12) g ga ∧ ∀ j, j < 48 → ga 42 j = g 12 j := fun ga i x ea => ⟨hv.st ea rfl, fun j hj => by rw [ea, upd2_nk (by decide)]; exact hs j hj⟩
  refine pc_ite (fun _ => pc_cb (pc_kp (w_fX12_lost _ _ _ _ FW.refl)) (fun _ ga La fa => pc_cb (cp_42 hfu (hv.f fa (by decide)) (fun j hj => by rw [fa.c (k := 42) (by decide) (by decide)]; exact hs j hj)) (fun _ gb Lb fb => ?_))) (fun _ => pc_ck (fun _ _ => pc_ck (fun _ _ => pc_ck (fun _ _ => pc_ite (fun _ => pc_ck (fun _ _ => pc_st (fun ga ea => hk63 _ (st ga _ _ ea)))) (fun _ => pc_ck (fun _ _ => pc_st (fun ga ea => hk63 _ (st ga _ _ ea))))))))
  exact pc_ite (fun _ => pc_ck (fun _ _ => pc_lti (fun _ _ => hk _ fb))) (fun _ => pc_ite (fun _ => hk _ fb) (fun _ => pc_ite (fun _ => pc_ck (fun _ _ => pc_ite (fun _ => pc_ck (fun _ _ => pc_lti (fun _ _ => hk _ fb))) (fun _ => hk _ fb))) (fun _ => pc_ck (fun _ _ => pc_lti (fun _ _ => hk _ fb)))))
theorem rm_shift {p1 p2 : Int32} : Pc (fX12_shift fu p1 p2 g L) (fun _ g1 _ => Rm S0 g g1) := by
  unfold fX12_shift fX12_shift_p22
  refine pc_st (fun g1 e1 => pc_cb (pc_kp (w_fX12_isLesson _ _ _ _ _ FW.refl)) (fun _ g3 L3 f3 => ?_))
  have h3 : Rm S0 g g3 := (Rm.refl.so e1 (cz_0 (by decide) (by decide) (by decide))).f f3 (by decide)
  refine pc_ite (fun _ => pc_some h3) (fun _ => pc_cb (pc_kp (w_fX12_isWhat _ _ _ _ _ _ FW.refl)) (fun _ g8 L8 f8 => ?_))
  have h8 := h3.f f8 (by decide)
  refine pc_ite (fun _ => pc_some h8) (fun _ => pc_ck (fun _ _ => pc_lti (fun x12 ex12 => pc_ck (fun _ _ => pc_lti (fun x13 ex13 => ?_)))))
  have ex12' : x12 = g 1 p1.toNatClampNeg := ex12.trans (h8 1 _ (Or.inr (Or.inl rfl)) id)
  have ex13' : x13 = g 2 p1.toNatClampNeg := ex13.trans (h8 2 _ (Or.inr (Or.inr (Or.inl rfl))) id)
  unfold fX12_shift_l52
  refine pc_loop (fun v => Rm (fun a b => (a = 1 ∨ a = 2) ∧ b = p1.toNatClampNeg) g v.2.2.2.2.1) (fun k hk v hv => ?_) h8.m0
  obtain ⟨v5, v6, v7, v8, g', L'⟩ := v
  replace hv : Rm (fun a b => (a = 1 ∨ a = 2) ∧ b = p1.toNatClampNeg) g g' := hv
  show Pc (fX12_shift_s52 fu p1 p2 x12 x13 k v5 v6 v7 v8 g' L') _
  unfold fX12_shift_s52 fX12_shift_p165 fX12_shift_p133 fX12_shift_p122
  refine pc_ite (fun _ => pc_ck (fun _ _ => pc_st (fun ga ea => pc_ck (fun _ _ => pc_st (fun gb eb => ?_))))) (fun _ => pc_ite (fun _ => hk _ hv) (fun _ => pc_ite (fun _ => pc_ck (fun _ _ => pc_st (fun ga ea => pc_ck (fun _ _ => pc_st (fun gb eb => pc_cb (pc_kp (w_fX12_lost _ _ _ _ FW.refl)) (fun _ gc Lc fc => ?_)))))) (fun _ => hk _ hv)))
  · have hb := ((hv.bk ea ex12').bk eb ex13').mo (S' := S0) (fun a b h => by
      obtain ⟨⟨⟨h1, h2⟩, h3⟩, h4⟩ := h
      rcases h1 with h1 | h1
      · exact h3 ⟨h1, h2⟩
      · exact h4 ⟨h1, h2⟩)
    exact pc_ite (fun _ => pc_some hb) (fun _ => pc_some hb)
  · have hc := (((hv.st ea ⟨Or.inl rfl, rfl⟩).st eb ⟨Or.inr rfl, rfl⟩).f fc (by decide))
    exact pc_ite (fun _ => hk _ hc) (fun _ => pc_ite (fun _ => hk _ hc) (fun _ => hk _ hc))
theorem rm_fits {p1 : Int32} : Pc (fX12_fits fu p1 g L) (fun _ g1 _ => Rm S0 g g1) := by
  unfold fX12_fits
  refine pc_st (fun g1 e1 => pc_cb (pc_kp (w_fX12_isWhat _ _ _ _ _ _ FW.refl)) (fun _ g3 L3 f3 => ?_))
  have h3 : Rm S0 g g3 := (Rm.refl.so e1 (cz_0 (by decide) (by decide) (by decide))).f f3 (by decide)
  refine pc_ite (fun _ => pc_some h3) (fun _ => ?_)
  unfold fX12_fits_l29
  refine pc_loop (fun v => Rm S0 g v.2.2.2.2.2.1) (fun k hk v hv => ?_) h3
  obtain ⟨v2, v3, v4, v5, v6, g', L'⟩ := v
  replace hv : Rm S0 g g' := hv
  show Pc (fX12_fits_s29 fu p1 k v2 v3 v4 v5 v6 g' L') _
  unfold fX12_fits_s29 fX12_fits_p177
  refine pc_ite (fun _ => pc_ite (fun _ => pc_some hv) (fun _ => pc_ite (fun _ => pc_some hv) (fun _ => pc_ite (fun _ => pc_some hv) (fun _ => pc_some hv)))) (fun _ => pc_ck (fun a1 a2 => pc_lti (fun x11 ex => ?_)))
  have ex' : x11 = g 12 (0 + v6).toNatClampNeg := ex.trans (hv 12 _ (cz_12 (by rw [nc]; omega)) id)
  unfold fX12_fits_l52
  refine pc_loop (fun v => Rm (S1 12 (0 + v6).toNatClampNeg) g v.2.2.2.2.2.1) (fun k52 hk52 v hv => ?_) hv.m0
  obtain ⟨w2, w3, w4, w5, w8, g', L'⟩ := v
  replace hv : Rm (S1 12 (0 + v6).toNatClampNeg) g g' := hv
  show Pc (fX12_fits_s52 fu k p1 v6 x11 k52 w2 w3 w4 w5 w8 g' L') _
  unfold fX12_fits_s52 fX12_fits_p126 fX12_fits_p97 fX12_fits_p119 fX12_fits_p115 fX12_fits_p120 fX12_fits_p126
  refine pc_ite (fun _ => pc_ck (fun _ _ => pc_st (fun ga ea => hk _ (hv.b1 ea ex')))) (fun _ => pc_ck (fun _ _ => pc_st (fun ga ea => pc_cb (pc_kp (w_fX12_isSeen _ _ _ _ FW.refl)) (fun _ gb Lb fb => ?_))))
  have hb := (hv.st ea ⟨rfl, rfl⟩).f fb (by decide)
  have p97 : ∀ (a b c d : Int32), Pc (if w5 = 0 then k52 (a, b, v6, 0, w8 + 1, gb, Lb) else if w4 = -1 then k52 (a, b, v6, 1, w8 + 1, gb, Lb) else if w4 = v6 then k52 (a, b, v6, 1, w8 + 1, gb, Lb) else k52 (a, b, v6, 0, w8 + 1, gb, Lb)) (fun _ g1 _ => Rm S0 g g1) := fun a b c d => pc_ite (fun _ => hk52 _ hb) (fun _ => pc_ite (fun _ => hk52 _ hb) (fun _ => pc_ite (fun _ => hk52 _ hb) (fun _ => hk52 _ hb)))
  exact pc_ite (fun _ => hk52 _ hb) (fun _ => pc_ite (fun _ => pc_lti (fun x _ => p97 _ x 0 0)) (fun _ => p97 _ _ 0 0))
theorem rm_weighs {p1 p2 : Int32} : Pc (fX12_weighs fu p1 p2 g L) (fun _ g1 _ => Rm (S1 0 60) g g1 ∧ g1 0 60 = 0) := by
  unfold fX12_weighs fX12_weighs_l5
  refine pc_loop (fun v => Rm (S1 0 60) g v.2.2.1) (fun k hk v hv => ?_) Rm.refl
  obtain ⟨v3, v5, g', L'⟩ := v
  replace hv : Rm (S1 0 60) g g' := hv
  show Pc (fX12_weighs_s5 fu p1 p2 k v3 v5 g' L') _
  unfold fX12_weighs_s5
  refine pc_ite (fun _ => pc_st (fun ga ea => pc_some ⟨hv.st ea ⟨rfl, rfl⟩, by rw [ea]; exact upd2_at⟩)) (fun _ => pc_st (fun ga ea => ?_))
  unfold fX12_weighs_l30
  refine pc_loop (fun v => Rm (S1 0 60) g v.2.2.1) (fun k30 hk30 v hv => ?_) (hv.st ea ⟨rfl, rfl⟩)
  obtain ⟨v6, v8, g', L'⟩ := v
  replace hv : Rm (S1 0 60) g g' := hv
  show Pc (fX12_weighs_s30 fu k p1 p2 v3 v5 k30 v6 v8 g' L') _
  unfold fX12_weighs_s30 fX12_weighs_p169
  have p122 : ∀ (a : Int64) (b c : Int32), Pc (fX12_weighs_p122 fu k k30 p1 p2 v3 v5 a v8 b c g' L') (fun _ g1 _ => Rm (S1 0 60) g g1 ∧ g1 0 60 = 0) := by
    intro a b c
    unfold fX12_weighs_p122
    exact pc_st (fun ga ea => hk30 _ (hv.st ea ⟨rfl, rfl⟩))
  have p96 : ∀ (t0 : Int32) (a b : Int64), Pc (fX12_weighs_p96 fu k k30 p1 p2 v3 v5 v8 t0 a b g' L') (fun _ g1 _ => Rm (S1 0 60) g g1 ∧ g1 0 60 = 0) := by
    intro t0 a b
    unfold fX12_weighs_p96
    intro x g1 L1
    exact (pc_ite (fun _ => pc_ck (fun _ _ => p122 _ _ _)) (fun _ => p122 _ _ _) : Pc _ _) x g1 L1
  have p55 : ∀ t0 : Int32, Pc (fX12_weighs_p55 fu k k30 p1 p2 v3 v5 v6 v8 t0 g' L') (fun _ g1 _ => Rm (S1 0 60) g g1 ∧ g1 0 60 = 0) := by
    intro t0
    unfold fX12_weighs_p55
    exact pc_ite (fun _ => pc_ck (fun _ _ => pc_ck (fun _ _ => p96 _ _ _))) (fun _ => pc_ck (fun _ _ => pc_ck (fun _ _ => p96 _ _ _)))
  refine pc_ite (fun _ => pc_cb (pc_kp (w_fX12_works0 _ _ _ _ FW.refl)) (fun _ ga La fa => ?_)) (fun _ => pc_ite (fun _ => p55 1) (fun _ => p55 0))
  have ha := hv.f fa (by decide)
  refine pc_ite (fun _ => pc_cb (pc_kp (w_fX12_late _ _ _ _ _ FW.refl)) (fun _ gb Lb fb => ?_)) (fun _ => pc_cb (pc_kp (w_fX12_late _ _ _ _ _ FW.refl)) (fun _ gb Lb fb => ?_))
  · intro x g1 L1
    exact hk _ (ha.f fb (by decide)) x g1 L1
  · have hb := ha.f fb (by decide)
    refine pc_ite (fun _ => ?_) (fun _ => ?_)
    · intro x g1 L1
      exact hk _ hb x g1 L1
    · intro x g1 L1
      exact hk _ hb x g1 L1
theorem rm_w {g1 : gT} (h60 : g 0 60 = 0) (h : Rm (S1 0 60) g g1 ∧ g1 0 60 = 0) : Rm S0 g g1 := fun k j hc _ => by
  by_cases e : k = 0 ∧ j = 60
  · obtain ⟨rfl, rfl⟩ := e
    rw [h.2, h60]
  · exact h.1 k j hc e
theorem rm_chance {p1 p2 p3 : Int32} (h60 : g 0 60 = 0) : Pc (fX12_chance fu p1 p2 p3 g L) (fun _ g1 _ => Rm S0 g g1) := by
  unfold fX12_chance fX12_chance_p38
  refine pc_st (fun g1 e1 => pc_cb (pc_kp (w_fX12_isLesson _ _ _ _ _ FW.refl)) (fun _ g3 L3 f3 => ?_))
  have h3 : Rm S0 g g3 := (Rm.refl.so e1 (cz_0 (by decide) (by decide) (by decide))).f f3 (by decide)
  refine pc_ite (fun _ => pc_some h3) (fun _ => pc_cb (pc_kp (w_fX12_isWhat _ _ _ _ _ _ FW.refl)) (fun _ g8 L8 f8 => ?_))
  have h8 := h3.f f8 (by decide)
  refine pc_ite (fun _ => pc_some h8) (fun _ => pc_cb (pc_kp (w_fX12_within _ _ _ _ _ _ _ FW.refl)) (fun _ g13 L13 f13 => pc_cb (pc_kp (w_fX12_right _ _ _ _ _ _ FW.refl)) (fun _ g17 L17 f17 => ?_)))
  have h17 := (h8.f f13 (by decide)).f f17 (by decide)
  refine pc_ite (fun _ => pc_some h17) (fun _ => pc_cb (pc_kp (w_fX12_asks _ _ _ _ FW.refl)) (fun _ g22 L22 f22 => pc_cb rm_weighs (fun _ g26 L26 f26 => pc_cb (P := fun _ g1 _ => Rm S0 g26 g1) (pc_mo (pc_kp (w_fX12_tens _ _ _ _ FW.refl)) (fun _ _ _ f => Rm.refl.f f (by decide))) (fun _ g30 L30 f30 => pc_cb (P := fun _ g1 _ => Rm S0 g30 g1) (pc_mo (pc_kp (w_fX12_portion _ _ _ _ _ _ _ FW.refl)) (fun _ _ _ f => Rm.refl.f f (by decide))) (fun _ g34 L34 f34 => pc_some ?_)))))
  have h22 := h17.f f22 (by decide)
  exact ((h22.tr (rm_w (by rw [m60 h22]; exact h60) f26)).tr f30).tr f34
theorem rm_mean {p1 p2 : Int32} (h60 : g 0 60 = 0) : Pc (fX12_mean fu p1 p2 g L) (fun _ g1 _ => Rm S0 g g1) := by
  unfold fX12_mean fX12_mean_p22
  refine pc_st (fun g1 e1 => pc_cb (pc_kp (w_fX12_isLesson _ _ _ _ _ FW.refl)) (fun _ g3 L3 f3 => ?_))
  have h3 : Rm S0 g g3 := (Rm.refl.so e1 (cz_0 (by decide) (by decide) (by decide))).f f3 (by decide)
  refine pc_ite (fun _ => pc_some h3) (fun _ => pc_cb (pc_kp (w_fX12_isWhat _ _ _ _ _ _ FW.refl)) (fun _ g8 L8 f8 => ?_))
  have h8 := h3.f f8 (by decide)
  refine pc_ite (fun _ => pc_some h8) (fun _ => pc_cb (pc_kp (w_fX12_asks _ _ _ _ FW.refl)) (fun _ g22 L22 f22 => pc_cb rm_weighs (fun _ g26 L26 f26 => pc_cb (P := fun _ g1 _ => Rm S0 g26 g1) (pc_mo (pc_kp (w_fX12_tens _ _ _ _ FW.refl)) (fun _ _ _ f => Rm.refl.f f (by decide))) (fun _ g30 L30 f30 => pc_cb (P := fun _ g1 _ => Rm S0 g30 g1) (pc_mo (pc_kp (w_fX12_portion _ _ _ _ _ _ _ FW.refl)) (fun _ _ _ f => Rm.refl.f f (by decide))) (fun _ g34 L34 f34 => pc_some ?_)))))
  have h22 := h8.f f22 (by decide)
  exact ((h22.tr (rm_w (by rw [m60 h22]; exact h60) f26)).tr f30).tr f34
theorem rm_term {p1 p2 p3 p4 : Int32} (h60 : g 0 60 = 0) : Pc (fX12_term fu p1 p2 p3 p4 g L) (fun _ g1 _ => Rm S0 g g1) := by
  unfold fX12_term fX12_term_p38
  refine pc_st (fun g1 e1 => pc_cb (pc_kp (w_fX12_isLesson _ _ _ _ _ FW.refl)) (fun _ g3 L3 f3 => ?_))
  have h3 : Rm S0 g g3 := (Rm.refl.so e1 (cz_0 (by decide) (by decide) (by decide))).f f3 (by decide)
  refine pc_ite (fun _ => pc_some h3) (fun _ => pc_cb (pc_kp (w_fX12_isWhat _ _ _ _ _ _ FW.refl)) (fun _ g8 L8 f8 => ?_))
  have h8 := h3.f f8 (by decide)
  refine pc_ite (fun _ => pc_some h8) (fun _ => pc_cb (pc_kp (w_fX12_within _ _ _ _ _ _ _ FW.refl)) (fun _ g13 L13 f13 => pc_cb (pc_kp (w_fX12_right _ _ _ _ _ _ FW.refl)) (fun _ g17 L17 f17 => ?_)))
  have h17 := (h8.f f13 (by decide)).f f17 (by decide)
  refine pc_ite (fun _ => pc_some h17) (fun _ => pc_st (fun g21 e21 => ?_))
  have h21 : Rm S0 g g21 := h17.so e21 (cz_0 (by decide) (by decide) (by decide))
  unfold fX12_term_l57
  refine pc_loop (fun v => Rm (S1 0 60) g v.2.2.2.2.1) (fun k hk v hv => ?_) h21.m0
  obtain ⟨v5, v6, v7, v8, g', L'⟩ := v
  replace hv : Rm (S1 0 60) g g' := hv
  show Pc (fX12_term_s57 fu p2 p3 p4 k v5 v6 v7 v8 g' L') _
  unfold fX12_term_s57 fX12_term_p208
  refine pc_ite (fun _ => pc_st (fun ga ea => ?_)) (fun _ => pc_st (fun ga ea => ?_))
  · have ha := hv.b1 ea h60.symm
    exact pc_ite (fun _ => pc_some ha) (fun _ => pc_ite (fun _ => pc_some ha) (fun _ => pc_some ha))
  unfold fX12_term_l71
  refine pc_loop (fun v => Rm (S1 0 60) g v.2.1) (fun k71 hk71 v hv => ?_) (hv.st ea ⟨rfl, rfl⟩)
  obtain ⟨v9, g', L'⟩ := v
  replace hv : Rm (S1 0 60) g g' := hv
  show Pc (fX12_term_s71 fu k p2 p3 p4 v5 v6 v7 v8 k71 v9 g' L') _
  unfold fX12_term_s71 fX12_term_p121 fX12_term_p154 fX12_term_p171
  refine pc_ite (fun _ => pc_cb (pc_kp (w_fX12_lost _ _ _ _ FW.refl)) (fun _ ga La fa => pc_lti (fun _ _ => ?_))) (fun _ => pc_ck (fun _ _ => pc_ite (fun _ => hk71 _ hv) (fun _ => pc_cb (pc_kp (w_fX12_draw _ _ _ _ _ FW.refl)) (fun _ ga La fa => pc_ck (fun _ _ => pc_ite (fun _ => hk71 _ (hv.f fa (by decide))) (fun _ => pc_st (fun gb eb => hk71 _ ((hv.f fa (by decide)).st eb ⟨rfl, rfl⟩))))))))
  have ha := hv.f fa (by decide)
  refine pc_ite (fun _ => pc_cb (pc_kp (w_fX12_late _ _ _ _ _ FW.refl)) (fun _ gb Lb fb => ?_)) (fun _ => pc_cb (pc_kp (w_fX12_late _ _ _ _ _ FW.refl)) (fun _ gb Lb fb => ?_))
  · exact pc_ite (fun _ => pc_lti (fun _ _ => hk _ (ha.f fb (by decide)))) (fun _ => pc_lti (fun _ _ => hk _ (ha.f fb (by decide))))
  · exact pc_ite (fun _ => pc_lti (fun _ _ => hk _ (ha.f fb (by decide)))) (fun _ => pc_lti (fun _ _ => hk _ (ha.f fb (by decide))))
/-- the gaps' row -/
abbrev Sg (v : Int) : Nat → Nat → Prop := fun a b => a = 12 ∧ 12 + v ≤ (b : Int) ∧ b < 24
theorem rm_gaps {p1 p2 p3 : Int32} : Pc (fX12_gaps fu p1 p2 p3 g L) (fun _ g1 _ => Rm S0 g g1) := by
  -- the end: the row is put back
  have fin : ∀ (v6 : Int32) (ga : gT) (La : lT), Rm (Sg 0) g ga → (∀ j, j < 12 → ga 39 j = g 12 (12 + j)) → Pc (fX12_gaps_l295 fu v6 0 ga La) (fun _ g1 _ => Rm S0 g g1) := by
    intro v6 ga La ha sa
    unfold fX12_gaps_l295
    refine pc_loop (fun v => (0 ≤ v.1.toInt ∧ v.1.toInt ≤ 12) ∧ Rm (Sg v.1.toInt) g v.2.1 ∧ ∀ j, j < 12 → v.2.1 39 j = g 12 (12 + j)) (fun k hk v hv => ?_) ⟨(show 0 ≤ (0 : Int32).toInt ∧ (0 : Int32).toInt ≤ 12 from by decide), ha, sa⟩
    obtain ⟨v7, g', L'⟩ := v
    obtain ⟨hr, hv, hs⟩ := hv
    replace hr : 0 ≤ v7.toInt ∧ v7.toInt ≤ 12 := hr
    replace hv : Rm (Sg v7.toInt) g g' := hv
    replace hs : ∀ j, j < 12 → g' 39 j = g 12 (12 + j) := hs
    show Pc (fX12_gaps_s295 fu v6 k v7 g' L') _
    unfold fX12_gaps_s295 fX12_gaps_p336
    refine pc_ite (fun c => ?_) (fun c => pc_ck (fun _ _ => pc_ck (fun _ _ => pc_st (fun gb eb => hk _ ?_))))
    · have c := icc_le (m := 12) (n := v7.toInt) (by decide) rfl c
      have h0 : Rm S0 g g' := hv.mo (fun a b h => by have := h.2; omega)
      exact pc_ite (fun _ => pc_some h0) (fun _ => pc_st (fun gc ec => pc_some (h0.so ec (cz_0 (by decide) (by decide) (by decide)))))
    · have c := icc_nle (m := 12) (n := v7.toInt) (by decide) rfl c
      have ew : (v7 + 1).toInt = v7.toInt + 1 := ic_addc rfl (by decide) (by omega) (by omega)
      have e12 : (12 + v7).toInt = 12 + v7.toInt := ic_addc (by decide) rfl (by omega) (by omega)
      have eN : (12 + v7).toNatClampNeg = 12 + v7.toInt.toNat := by rw [nc, e12]; omega
      have eM : v7.toNatClampNeg = v7.toInt.toNat := by rw [nc]
      rw [eN, eM] at eb
      refine ⟨(show 0 ≤ (v7 + 1).toInt ∧ (v7 + 1).toInt ≤ 12 by omega), (hv.bk eb (hs _ (by omega))).mo (fun a b h => ?_), fun j hj => ?_⟩
      · obtain ⟨⟨h1, h2, h3⟩, h4⟩ := h
        refine ⟨h1, ?_, h3⟩
        show 12 + (v7 + 1).toInt ≤ (b : Int)
        have : b ≠ 12 + v7.toInt.toNat := fun e => h4 ⟨h1, e⟩
        omega
      · show gb 39 j = _
        rw [eb, upd2_nk (by decide)]; exact hs j hj
  have tr0 : ∀ {ga gb : gT}, Rm S0 ga gb → Rm (Sg 0) ga gb := fun h => h.m0
  -- all rows of gaps
  have mid : ∀ (v4 v5 : Int32) (ga : gT) (La : lT), (0 ≤ v4.toInt ∧ v4.toInt ≤ 5) → Rm (Sg 0) g ga → (∀ j, j < 12 → ga 39 j = g 12 (12 + j)) → (∀ k : Nat, (k : Int) < v4.toInt → 0 ≤ (ga 40 k).toInt ∧ (ga 40 k).toInt ≤ 11) → Pc (fX12_gaps_l152 fu p2 p3 v4 v5 (-1) 0 ga La) (fun _ g1 _ => Rm S0 g g1) := by
    intro v4 v5 ga La h4 ha sa ra
    unfold fX12_gaps_l152
    refine pc_loop (fun v => Rm (Sg 0) g v.2.2.1 ∧ (∀ j, j < 12 → v.2.2.1 39 j = g 12 (12 + j)) ∧ (∀ k : Nat, (k : Int) < v4.toInt → 0 ≤ (v.2.2.1 40 k).toInt ∧ (v.2.2.1 40 k).toInt ≤ 11)) (fun k152 hk152 v hv => ?_) ⟨ha, sa, ra⟩
    obtain ⟨v6, v7, g', L'⟩ := v
    obtain ⟨hv, hs, hr⟩ := hv
    replace hv : Rm (Sg 0) g g' := hv
    replace hs : ∀ j, j < 12 → g' 39 j = g 12 (12 + j) := hs
    replace hr : ∀ k : Nat, (k : Int) < v4.toInt → 0 ≤ (g' 40 k).toInt ∧ (g' 40 k).toInt ≤ 11 := hr
    show Pc (fX12_gaps_s152 fu p2 p3 v4 v5 k152 v6 v7 g' L') _
    unfold fX12_gaps_s152
    refine pc_ite (fun _ => fin v6 g' L' hv hs) (fun _ => pc_lti (fun x19 e19 => ?_))
    have e19 : x19.toInt = v4.toInt - 1 := by rw [e19]; exact ic_subc rfl (by decide) (by omega) (by omega)
    unfold fX12_gaps_l172
    refine pc_loop (fun v => v.2.2.1.toInt < v4.toInt ∧ Rm (Sg 0) g v.2.2.2.1 ∧ (∀ j, j < 12 → v.2.2.2.1 39 j = g 12 (12 + j)) ∧ (∀ k : Nat, (k : Int) < v4.toInt → 0 ≤ (v.2.2.2.1 40 k).toInt ∧ (v.2.2.2.1 40 k).toInt ≤ 11)) (fun k172 hk172 v hv => ?_) ⟨(show x19.toInt < v4.toInt by omega), hv, hs, hr⟩
    obtain ⟨v8, v9, v10, g', L'⟩ := v
    obtain ⟨h10, hv, hs, hr⟩ := hv
    replace h10 : v10.toInt < v4.toInt := h10
    replace hv : Rm (Sg 0) g g' := hv
    replace hs : ∀ j, j < 12 → g' 39 j = g 12 (12 + j) := hs
    replace hr : ∀ k : Nat, (k : Int) < v4.toInt → 0 ≤ (g' 40 k).toInt ∧ (g' 40 k).toInt ≤ 11 := hr
    show Pc (fX12_gaps_s172 fu k152 p2 p3 v4 v5 v6 v7 k172 v8 v9 v10 g' L') _
    unfold fX12_gaps_s172 fX12_gaps_p286
    have p233 : Pc (fX12_gaps_p233 fu k152 p2 p3 v4 v5 v6 v7 v8 g' L') (fun _ g1 _ => Rm S0 g g1) := by
      unfold fX12_gaps_p233 fX12_gaps_p286
      refine pc_cb (pc_kp (w_fX12_works0 _ _ _ _ FW.refl)) (fun _ gb Lb fb => pc_cb (pc_kp (w_fX12_late _ _ _ _ _ FW.refl)) (fun _ gc Lc fc => ?_))
      have hc := (hv.f fb (by decide)).f fc (by decide)
      have sc : ∀ j, j < 12 → gc 39 j = g 12 (12 + j) := fun j hj => by rw [fc.c (k := 39) (by decide) (by decide), fb.c (k := 39) (by decide) (by decide)]; exact hs j hj
      have rc : ∀ k : Nat, (k : Int) < v4.toInt → 0 ≤ (gc 40 k).toInt ∧ (gc 40 k).toInt ≤ 11 := fun k hk => by rw [fc.c (k := 40) (by decide) (by decide), fb.c (k := 40) (by decide) (by decide)]; exact hr k hk
      refine pc_ite (fun _ => ?_) (fun _ => hk152 _ ⟨hc, sc, rc⟩)
      unfold fX12_gaps_l256
      refine pc_loop (fun v => Rm (Sg 0) g v.2.1 ∧ (∀ j, j < 12 → v.2.1 39 j = g 12 (12 + j)) ∧ (∀ k : Nat, (k : Int) < v4.toInt → 0 ≤ (v.2.1 40 k).toInt ∧ (v.2.1 40 k).toInt ≤ 11)) (fun k256 hk256 v hv => ?_) ⟨hc, sc, rc⟩
      obtain ⟨w10, g'', L''⟩ := v
      obtain ⟨hv, hs, hr⟩ := hv
      replace hv : Rm (Sg 0) g g'' := hv
      replace hs : ∀ j, j < 12 → g'' 39 j = g 12 (12 + j) := hs
      replace hr : ∀ k : Nat, (k : Int) < v4.toInt → 0 ≤ (g'' 40 k).toInt ∧ (g'' 40 k).toInt ≤ 11 := hr
      show Pc (fX12_gaps_s256 fu k152 p2 p3 v4 v5 v8 v7 k256 w10 g'' L'') _
      unfold fX12_gaps_s256 fX12_gaps_p286
      refine pc_ite (fun _ => hk152 _ ⟨hv, hs, hr⟩) (fun _ => pc_ck (fun _ _ => pc_ck (fun _ _ => pc_st (fun gd ed => hk256 _ ⟨hv.so ed (cz_n (by decide) (by decide) (by decide) (by decide)), fun j hj => ?_, fun k hk => ?_⟩))))
      · show gd 39 j = _
        rw [ed, upd2_nk (by decide)]; exact hs j hj
      · show 0 ≤ (gd 40 k).toInt ∧ (gd 40 k).toInt ≤ 11
        rw [ed, upd2_nk (by decide)]; exact hr k hk
    refine pc_ite (fun _ => pc_ite (fun _ => p233) (fun _ => pc_ite (fun _ => p233) (fun _ => hk152 _ ⟨hv, hs, hr⟩))) (fun c => pc_ck (fun _ _ => pc_cnz (pc_ck (fun _ _ => pc_st (fun gb eb => pc_cnz (pc_lti (fun _ _ => pc_cnz (pc_lti (fun _ _ => hk172 _ ⟨?_, ?_, fun j hj => ?_, fun k hk => ?_⟩)))))))))
    · have c := icc_nlt (m := v10.toInt) (n := 0) rfl (by decide) c
      show (v10 + (-1)).toInt < v4.toInt
      rw [ic_addc (m := v10.toInt) (n := -1) rfl (by decide) (by omega) (by omega)]; omega
    · have c := icc_nlt (m := v10.toInt) (n := 0) rfl (by decide) c
      have hq := hr v10.toNatClampNeg (by rw [nc]; omega)
      refine hv.st eb ⟨rfl, ?_, ?_⟩
      · rw [nc, ic_addc (m := 12) (n := (g' 40 v10.toNatClampNeg).toInt) (by decide) rfl (by omega) (by omega)]; omega
      · rw [nc, ic_addc (m := 12) (n := (g' 40 v10.toNatClampNeg).toInt) (by decide) rfl (by omega) (by omega)]; omega
    · show gb 39 j = _
      rw [eb, upd2_nk (by decide)]; exact hs j hj
    · show 0 ≤ (gb 40 k).toInt ∧ (gb 40 k).toInt ≤ 11
      rw [eb, upd2_nk (by decide)]; exact hr k hk
  have beg : ∀ (ga : gT) (La : lT), Rm S0 g ga → Pc (fX12_gaps_l67 fu p1 p2 p3 0 0 ga La) (fun _ g1 _ => Rm S0 g g1) := by
    intro ga La ha
    unfold fX12_gaps_l67
    refine pc_loop (fun v => (0 ≤ v.1.toInt ∧ v.1.toInt ≤ 5) ∧ (0 ≤ v.2.1.toInt ∧ v.2.1.toInt ≤ 12) ∧ Rm S0 g v.2.2.1 ∧ (∀ j : Nat, (j : Int) < v.2.1.toInt → v.2.2.1 39 j = g 12 (12 + j)) ∧ (∀ k : Nat, (k : Int) < v.1.toInt → 0 ≤ (v.2.2.1 40 k).toInt ∧ (v.2.2.1 40 k).toInt ≤ 11)) (fun k67 hk67 v hv => ?_) ⟨(show 0 ≤ (0 : Int32).toInt ∧ (0 : Int32).toInt ≤ 5 from by decide), (show 0 ≤ (0 : Int32).toInt ∧ (0 : Int32).toInt ≤ 12 from by decide), ha, fun j hj => absurd (show (j : Int) < 0 from hj) (by omega), fun j hj => absurd (show (j : Int) < 0 from hj) (by omega)⟩
    obtain ⟨v4, v5, g', L'⟩ := v
    obtain ⟨h4, h5, hv, hs, hr⟩ := hv
    replace h4 : 0 ≤ v4.toInt ∧ v4.toInt ≤ 5 := h4
    replace h5 : 0 ≤ v5.toInt ∧ v5.toInt ≤ 12 := h5
    replace hv : Rm S0 g g' := hv
    replace hs : ∀ j : Nat, (j : Int) < v5.toInt → g' 39 j = g 12 (12 + j) := hs
    replace hr : ∀ k : Nat, (k : Int) < v4.toInt → 0 ≤ (g' 40 k).toInt ∧ (g' 40 k).toInt ≤ 11 := hr
    show Pc (fX12_gaps_s67 fu p1 p2 p3 k67 v4 v5 g' L') _
    unfold fX12_gaps_s67 fX12_gaps_p115
    refine pc_ite (fun c => ?_) (fun c => pc_ck (fun _ _ => pc_ck (fun _ _ => pc_st (fun gb eb => ?_))))
    · have c := icc_le (m := 12) (n := v5.toInt) (by decide) rfl c
      unfold fX12_gaps_l127
      refine pc_loop (fun v => v.2.2.1 = g') (fun k127 hk127 v hv2 => ?_) rfl
      obtain ⟨w5, w6, g'', L''⟩ := v
      replace hv2 : g'' = g' := hv2
      subst hv2
      show Pc (fX12_gaps_s127 fu p2 p3 v4 k127 w5 w6 g'' L'') _
      unfold fX12_gaps_s127
      exact pc_ite (fun _ => mid v4 w5 g'' L'' h4 (tr0 hv) (fun j hj => hs j (by omega)) hr) (fun _ => pc_lti (fun _ _ => hk127 _ rfl))
    · have c := icc_nle (m := 12) (n := v5.toInt) (by decide) rfl c
      have ew : (v5 + 1).toInt = v5.toInt + 1 := ic_addc rfl (by decide) (by omega) (by omega)
      have e12 : (12 + v5).toInt = 12 + v5.toInt := ic_addc (by decide) rfl (by omega) (by omega)
      have eN : (12 + v5).toNatClampNeg = 12 + v5.toInt.toNat := by rw [nc, e12]; omega
      have eM : v5.toNatClampNeg = v5.toInt.toNat := by rw [nc]
      rw [eN, eM] at eb
      have hb : Rm S0 g gb := hv.so eb (cz_n (by decide) (by decide) (by decide) (by decide))
      have sb : ∀ j : Nat, (j : Int) < (v5 + 1).toInt → gb 39 j = g 12 (12 + j) := fun j hj => by
        rw [eb]
        by_cases e : j = v5.toInt.toNat
        · rw [e, upd2_at]; exact hv 12 _ (cz_12 (by omega)) id
        · rw [upd2_nj e]; exact hs j (by omega)
      have rb : ∀ k : Nat, (k : Int) < v4.toInt → 0 ≤ (gb 40 k).toInt ∧ (gb 40 k).toInt ≤ 11 := fun k hk => by rw [eb, upd2_nk (by decide)]; exact hr k hk
      refine pc_ite (fun _ => hk67 _ ⟨h4, (show 0 ≤ (v5 + 1).toInt ∧ (v5 + 1).toInt ≤ 12 by omega), hb, sb, rb⟩) (fun _ => pc_ck (fun c1 c2 => pc_st (fun gc ec => hk67 _ ?_)))
      have ew4 : (v4 + 1).toInt = v4.toInt + 1 := ic_addc rfl (by decide) (by omega) (by omega)
      have e4 : v4.toNatClampNeg = v4.toInt.toNat := by rw [nc]
      rw [e4] at ec
      refine ⟨(show 0 ≤ (v4 + 1).toInt ∧ (v4 + 1).toInt ≤ 5 by omega), (show 0 ≤ (v5 + 1).toInt ∧ (v5 + 1).toInt ≤ 12 by omega), hb.so ec (cz_n (by decide) (by decide) (by decide) (by decide)), fun j hj => ?_, fun k hk => ?_⟩
      · show gc 39 j = _
        rw [ec, upd2_nk (by decide)]; exact sb j hj
      · show 0 ≤ (gc 40 k).toInt ∧ (gc 40 k).toInt ≤ 11
        replace hk : (k : Int) < (v4 + 1).toInt := hk
        rw [ec]
        by_cases e : k = v4.toInt.toNat
        · rw [e, upd2_at]; omega
        · rw [upd2_nj e]; exact rb k (by omega)
  unfold fX12_gaps fX12_gaps_p51 fX12_gaps_p52 fX12_gaps_p59
  refine pc_st (fun g1 e1 => pc_cb (pc_kp (w_fX12_isLesson _ _ _ _ _ FW.refl)) (fun _ g3 L3 f3 => ?_))
  have h3 : Rm S0 g g3 := (Rm.refl.so e1 (cz_0 (by decide) (by decide) (by decide))).f f3 (by decide)
  have p52 : ∀ (t0 : Int32) (ga : gT) (La : lT), Rm S0 g ga → Pc (cb (fX12_right fu t0 2 ga La) (fun x7 g8 L9 => if x7 = 0 then some ((0 : Int32), (g8, L9)) else fX12_gaps_l67 fu p1 p2 p3 0 0 g8 L9)) (fun _ g1 _ => Rm S0 g g1) := by
    intro t0 ga La ha
    refine pc_cb (pc_kp (w_fX12_right _ _ _ _ _ _ FW.refl)) (fun _ g8 L8 f8 => ?_)
    have h8 := ha.f f8 (by decide)
    exact pc_ite (fun _ => pc_some h8) (fun _ => beg g8 L8 h8)
  refine pc_ite (fun _ => pc_some h3) (fun _ => pc_ite (fun _ => p52 0 g3 L3 h3) (fun _ => pc_ite (fun _ => p52 0 g3 L3 h3) (fun _ => pc_cb (pc_kp (w_fX12_bits _ _ _ _ _ FW.refl)) (fun _ ga La fa => ?_))))
  have ha := h3.f fa (by decide)
  refine pc_ite (fun _ => p52 0 ga La ha) (fun _ => pc_cb (pc_kp (w_fX12_within _ _ _ _ _ _ _ FW.refl)) (fun _ gb Lb fb => ?_))
  have hb := ha.f fb (by decide)
  exact pc_ite (fun _ => p52 0 gb Lb hb) (fun _ => p52 1 gb Lb hb)
end RM
end
section
/-! ===== trials leave the data coupled ===== -/
abbrev rfX : List Nat := [15, 19, 20, 29, 30, 31, 32, 33, 34, 35, 36, 37, 38, 39, 40, 41, 42, 81, 82, 83, 84, 85, 86, 87, 88, 89, 90, 91, 92]
abbrev rfM : List Nat := [3, 4, 5, 6, 7, 8, 9, 10, 11, 14, 36, 43, 48, 49, 50]
abbrev rgM : List (Nat × Nat) := [(0, 1), (0, 2), (0, 3), (0, 4), (0, 62), (0, 73), (0, 81), (0, 82), (0, 83), (0, 84)]
theorem rfX_m : ∀ i, i < 12 → 81 + i ∈ rfX := by decide
theorem cd_rs {A A' : List (Nat × Nat)} {B B' : List Nat} {g gm g1 g2 : gT} (hI : zI MT gm) (h : CD g gm) (f1 : FW A B g g1) (r1 : Rs S0 g g1) (f2 : FW A' B' gm g2) (r2 : Rm S0 gm g2) (o1 : okw rfX [(1, 3), (1, 4), (7, 11)] A B = true) (o2 : okw rfM rgM A' B' = true) : CD g1 g2 := by
  obtain ⟨⟨a1, a2, a3, a4⟩, ⟨b1, b2, b3, b4⟩, c1, d1, ⟨x1, x2, x3, x4⟩⟩ := h
  have q1 := hI 0 1 0 12 rfl
  have m1 : g2 0 1 = gm 0 1 := okw_f o2 f2 (by decide)
  have m2 : g2 0 2 = gm 0 2 := okw_f o2 f2 (by decide)
  have m81 : g2 0 81 = gm 0 81 := okw_f o2 f2 (by decide)
  have k1 : g2 1 = gm 1 := funext fun j => r2 1 j (Or.inr (Or.inl rfl)) id
  have k2 : g2 2 = gm 2 := funext fun j => r2 2 j (Or.inr (Or.inr (Or.inl rfl))) id
  have row : ∀ (i k : Nat), i < 12 → 25 ≤ k → k ≤ 28 → g1 k i = g k i := fun i k hi a c => r1 k i (Or.inl ⟨a, c, hi⟩) id
  have now : ∀ j, j < 48 → g2 12 j = gm 12 j := fun j hj => r2 12 j (cz_12 hj) id
  refine ⟨⟨fun i hi => ?_, ?_, ?_, ?_⟩, ⟨fun i hi => ?_, ?_, ?_, ?_⟩, fun h => ?_, fun j hj => ?_, ?_, ?_, ?_, ?_⟩
  · rw [m1] at hi
    refine (a1 i hi).c (funext fun j => r1 (57 + i) j (Or.inr (Or.inr (Or.inl ⟨by omega, by omega⟩))) id) (okw_c o1 f1 (rfX_m i (by omega))) (fun k a c => ?_)
    rcases (by omega : k = 1 ∨ k = 2 ∨ k = 3 ∨ k = 4 ∨ k = 5 ∨ k = 6 ∨ k = 7 ∨ k = 8 ∨ k = 9) with rfl | rfl | rfl | rfl | rfl | rfl | rfl | rfl | rfl
    · exact k1
    · exact k2
    all_goals exact okw_c o2 f2 (by decide)
  · rw [okw_f (k := 1) (j := 3) o1 f1 (by decide), okw_f (k := 0) (j := 3) o2 f2 (by decide)]; exact a2
  · rw [okw_f (k := 1) (j := 4) o1 f1 (by decide), okw_f (k := 0) (j := 4) o2 f2 (by decide)]; exact a3
  · rw [m2]
    exact a4.c (okw_c o1 f1 (by decide)) (okw_c o1 f1 (by decide)) (okw_c o2 f2 (by decide)) (okw_c o2 f2 (by decide))
  · rw [m1] at hi
    obtain ⟨y1, y2, y3, y4⟩ := b1 i hi
    refine ⟨?_, ?_, ?_, ?_⟩
    · rw [row i 25 (by omega) (by decide) (by decide), now i (by omega)]; exact y1
    · rw [row i (25 + 1) (by omega) (by decide) (by decide), now (12 + i) (by omega)]; exact y2
    · rw [row i (25 + 2) (by omega) (by decide) (by decide), now (24 + i) (by omega)]; exact y3
    · rw [row i (25 + 3) (by omega) (by decide) (by decide), now (36 + i) (by omega)]; exact y4
  · rw [r1 6 11 (Or.inr (Or.inl ⟨rfl, rfl⟩)) id, r2 0 52 (Or.inr (Or.inr (Or.inr ⟨rfl, Or.inl rfl⟩))) id]; exact b2
  · rw [okw_f (k := 0) (j := 62) o2 f2 (by decide)]; exact b3.c (okw_c o1 f1 (by decide)) (okw_c o1 f1 (by decide)) (okw_c o1 f1 (by decide)) (okw_c o2 f2 (by decide))
  · rw [okw_f (k := 0) (j := 73) o2 f2 (by decide)]; exact b4.c (okw_c o1 f1 (by decide)) (okw_c o1 f1 (by decide)) (okw_c o2 f2 (by decide))
  · rw [m81] at h
    obtain ⟨y1, y2, y3, y4⟩ := c1 h
    refine ⟨fun i hi => ?_, ?_, ?_, ?_⟩
    · rw [m1] at hi
      exact (y1 i hi).c (okw_c o1 f1 (by decide)) (okw_c o1 f1 (by decide)) (okw_c o1 f1 (by decide)) (okw_c o1 f1 (by decide)) (okw_c o2 f2 (by decide))
    · rw [okw_f (k := 7) (j := 11) o1 f1 (by decide), okw_f (k := 0) (j := 82) o2 f2 (by decide)]; exact y2
    · rw [okw_f (k := 0) (j := 83) o2 f2 (by decide)]; exact y3.c (okw_c o1 f1 (by decide)) (okw_c o1 f1 (by decide)) (okw_c o1 f1 (by decide)) (okw_c o2 f2 (by decide))
    · rw [okw_f (k := 0) (j := 84) o2 f2 (by decide)]; exact y4.c (okw_c o1 f1 (by decide)) (okw_c o1 f1 (by decide)) (okw_c o2 f2 (by decide))
  · rw [okw_c (k := 15) o1 f1 (by decide), okw_c (k := 14) o2 f2 (by decide)]; exact d1 j hj
  · rw [r1 8 8 (Or.inr (Or.inr (Or.inr ⟨rfl, Or.inl rfl⟩))) id]; exact x1
  · rw [r1 8 9 (Or.inr (Or.inr (Or.inr ⟨rfl, Or.inr rfl⟩))) id]; exact x2
  · rw [r2 0 60 (Or.inr (Or.inr (Or.inr ⟨rfl, Or.inr (Or.inl rfl)⟩))) id]; exact x3
  · rw [r2 0 61 (Or.inr (Or.inr (Or.inr ⟨rfl, Or.inr (Or.inr rfl)⟩))) id]; exact x4
section PX
variable {fu : Nat} {g : gT} {L : lT}
theorem nd_l {p : Int32} : Pc (fX11_needLesson_0 fu p g L) (fun _ g1 _ => g1 = g) := by
  by_cases h : isL (g 1 2) p
  · rw [xneed1 h]; exact pc_some rfl
  · rw [xneed0 h]; exact pc_some rfl
theorem nd_w {p q : Int32} : Pc (fX11_needWhat fu p q g L) (fun _ g1 _ => g1 = g) := by
  by_cases h : 0 ≤ p.toInt ∧ p.toInt < q.toInt
  · rw [xwhat1 h.1 h.2]; exact pc_some rfl
  · rw [xwhat0 h]; exact pc_some rfl
theorem nd_n {p a b : Int32} : Pc (fX11_needWithin fu p a b g L) (fun _ g1 _ => g1 = g) := by
  unfold fX11_needWithin fX11_needWithin_p10
  exact pc_ite (fun _ => pc_some rfl) (fun _ => pc_ite (fun _ => pc_some rfl) (fun _ => pc_some rfl))
theorem rs_nd {β γ : Type} {m : Option (Except String β × zS)} {K : β → gT → lT → Option (Except String γ × zS)} (hm : Pc m (fun _ g1 _ => g1 = g)) (h : ∀ x L1, Pc (K x g L1) (fun _ g1 _ => Rs S0 g g1)) : Pc (cbx m K) (fun _ g1 _ => Rs S0 g g1) := pc_cbx hm (fun E g1 L1 e => by rw [e]; exact Rs.refl) (fun x g1 L1 e => by rw [e]; exact h x L1)
theorem rsp_far {p1 p2 p3 : Int32} (h9 : g 8 9 = -1) : Pc (fX11_far_0 fu p1 p2 p3 g L) (fun _ g1 _ => Rs S0 g g1) := by
  unfold fX11_far_0
  refine rs_nd nd_l (fun _ _ => ?_)
  refine rs_nd nd_w (fun _ _ => ?_)
  refine rs_nd nd_n (fun _ _ => ?_)
  unfold fX11_far_0_p54
  refine pc_cb (pc_kp (w_fX10_keepEnds_9 _ _ _ _ FW.refl)) (fun _ g2 L2 f2 => ?_)
  have h2 : Rs S0 g g2 := Rs.refl.f f2 (by decide)
  refine pc_cb (rs_runMore ((h2 8 9 (Or.inr (Or.inr (Or.inr ⟨rfl, Or.inr rfl⟩))) id).trans h9)) (fun _ g3 L3 f3 => ?_)
  exact pc_ite (fun _ => pc_cb (pc_kp (w_fX10_laterBits_9 _ _ _ _ FW.refl)) (fun _ g4 L4 f4 => pc_some ((h2.tr f3).f f4 (by decide)))) (fun _ => pc_cb (pc_kp (w_fX10_laterMinutes_9 _ _ _ _ FW.refl)) (fun _ g4 L4 f4 => pc_some ((h2.tr f3).f f4 (by decide))))
theorem rsp_reaches {p1 p2 : Int32} (h9 : g 8 9 = -1) : Pc (fX11_reaches_0 fu p1 p2 g L) (fun _ g1 _ => Rs S0 g g1) := by
  unfold fX11_reaches_0
  refine rs_nd nd_l (fun _ _ => ?_)
  refine rs_nd nd_l (fun _ _ => ?_)
  exact pc_ite (fun _ => pc_some Rs.refl) (fun _ => pc_cb (rs_reaches h9) (fun _ g2 L2 f2 => pc_some f2))
theorem rsp_slack {p1 : Int32} (h9 : g 8 9 = -1) : Pc (fX11_slack_0 fu p1 g L) (fun _ g1 _ => Rs S0 g g1) := by
  unfold fX11_slack_0
  refine rs_nd nd_l (fun _ _ => ?_)
  exact pc_cb (rs_slack h9) (fun _ g2 L2 f2 => pc_some f2)
theorem rsp_gaps {p1 p2 p3 : Int32} : Pc (fX11_gaps_0 fu p1 p2 p3 g L) (fun _ g1 _ => Rs S0 g g1) := by
  unfold fX11_gaps_0
  refine rs_nd nd_l (fun _ _ => ?_)
  refine rs_nd nd_n (fun _ _ => ?_)
  unfold fX11_gaps_0_p33 fX11_gaps_0_p82
  refine pc_ite (fun _ => pc_cb (pc_kp (w_fJI_bitCount _ _ _ _ _ FW.refl)) (fun _ g2 L2 f2 => ?_)) (fun _ => pc_some Rs.refl)
  have h2 : Rs S0 g g2 := Rs.refl.f f2 (by decide)
  refine pc_ite (fun _ => pc_cb rs_fewest (fun _ g3 L3 f3 => pc_ite (fun _ => pc_some (h2.tr f3)) (fun _ => pc_stA (fun g4 e4 => pc_st (fun g5 e5 => pc_some ?_))))) (fun _ => pc_some h2)
  have h4 : Rs S0 g g4 := fun a b hc hn => by
    rw [e4, updA_ne (by rcases hc with ⟨x, y, -⟩ | ⟨x, -⟩ | ⟨x, y⟩ | ⟨x, -⟩ <;> omega)]; exact (h2.tr f3) a b hc hn
  exact h4.so e5 (fun h => by rcases h with ⟨h, -⟩ | ⟨h, -⟩ | ⟨h, -⟩ | ⟨h, -⟩ <;> omega)
theorem rsp_chance {p1 p2 p3 : Int32} (h8 : g 8 8 = -1) : Pc (fX11_chance_0 fu p1 p2 p3 g L) (fun _ g1 _ => Rs S0 g g1) := by
  unfold fX11_chance_0
  refine rs_nd nd_l (fun _ _ => ?_)
  refine rs_nd nd_w (fun _ _ => ?_)
  refine rs_nd nd_n (fun _ _ => ?_)
  unfold fX11_chance_0_p48
  exact pc_cb (rs_ofLate h8) (fun _ g2 L2 f2 => pc_ite (fun _ => pc_some f2) (fun _ => pc_some f2))
theorem rsp_mean {p1 p2 : Int32} (h8 : g 8 8 = -1) : Pc (fX11_mean_0 fu p1 p2 g L) (fun _ g1 _ => Rs S0 g g1) := by
  unfold fX11_mean_0
  refine rs_nd nd_l (fun _ _ => ?_)
  refine rs_nd nd_w (fun _ _ => ?_)
  unfold fX11_mean_0_p39
  exact pc_cb (rs_meanLate h8) (fun _ g2 L2 f2 => pc_ite (fun _ => pc_some f2) (fun _ => pc_some f2))
theorem rsp_swap {p1 : Int32} : Pc (fX11_swap_0 fu p1 g L) (fun _ g1 _ => Rs S0 g g1) := by
  unfold fX11_swap_0
  refine rs_nd nd_w (fun _ _ => ?_)
  exact pc_cb rs_swapped (fun _ g2 L2 f2 => pc_some f2)
theorem rsp_room {p1 p2 : Int32} : Pc (fX11_room_0 fu p1 p2 g L) (fun _ g1 _ => Rs S0 g g1) := by
  unfold fX11_room_0
  refine rs_nd nd_l (fun _ _ => ?_)
  refine rs_nd nd_w (fun _ _ => ?_)
  exact pc_cb rs_leastBy (fun _ g2 L2 f2 => pc_some f2)
theorem rsp_limit {p1 p2 : Int32} : Pc (fX11_limit_0 fu p1 p2 g L) (fun _ g1 _ => Rs S0 g g1) := by
  unfold fX11_limit_0
  refine rs_nd nd_l (fun _ _ => ?_)
  refine rs_nd nd_w (fun _ _ => ?_)
  exact pc_cb rs_leastBy (fun _ g2 L2 f2 => pc_some f2)
theorem rsp_last : Pc (fX11_last_0 fu g L) (fun _ g1 _ => Rs S0 g g1) := by
  unfold fX11_last_0
  exact pc_cb rs_withoutOne (fun _ g2 L2 f2 => pc_some f2)
theorem rsp_compare {p1 : Int32} : Pc (fX11_compare_0 fu p1 g L) (fun _ g1 _ => Rs S0 g g1) := by
  unfold fX11_compare_0
  refine pc_cb (pc_kp (w_fX11_isRuleOrNone_0 _ _ _ _ _ FW.refl)) (fun _ g2 L2 f2 => ?_)
  have h2 : Rs S0 g g2 := Rs.refl.f f2 (by decide)
  exact pc_ite (fun _ => pc_some h2) (fun _ => pc_cb rs_lostByRule (fun _ g3 L3 f3 => pc_some (h2.tr f3)))
theorem rsp_best : Pc (fX11_best_0 fu g L) (fun _ g1 _ => Rs S0 g g1) := by
  unfold fX11_best_0
  exact pc_cb rs_bestRule (fun _ g2 L2 f2 => pc_some f2)
theorem rsp_bell {p1 : Int32} : Pc (fX11_bell_0 fu p1 g L) (fun _ g1 _ => Rs S0 g g1) := by
  unfold fX11_bell_0
  refine rs_nd nd_n (fun _ _ => ?_)
  exact pc_cb rs_bell (fun _ g2 L2 f2 => pc_some f2)
theorem rsp_fits {p1 : Int32} : Pc (fX11_fits_0 fu p1 g L) (fun _ g1 _ => Rs S0 g g1) := by
  unfold fX11_fits_0
  refine rs_nd nd_w (fun _ _ => ?_)
  exact pc_cb rs_fits (fun _ g2 L2 f2 => pc_ite (fun _ => pc_some f2) (fun _ => pc_ite (fun _ => pc_some f2) (fun _ => pc_some f2)))
theorem rsp_term {p1 p2 p3 p4 : Int32} (h8 : g 8 8 = -1) : Pc (fX11_term_0 fu p1 p2 p3 p4 g L) (fun _ g1 _ => Rs S0 g g1) := by
  unfold fX11_term_0
  refine rs_nd nd_l (fun _ _ => ?_)
  refine rs_nd nd_w (fun _ _ => ?_)
  refine rs_nd nd_n (fun _ _ => ?_)
  exact pc_cb (rs_ofTerm h8) (fun _ g2 L2 f2 => pc_some f2)
theorem rsp_shift {p1 p2 : Int32} : Pc (fX11_shift_0 fu p1 p2 g L) (fun _ g1 _ => Rs S0 g g1) := by
  unfold fX11_shift_0
  refine rs_nd nd_l (fun _ _ => ?_)
  refine rs_nd nd_w (fun _ _ => ?_)
  exact pc_cb rs_shift (fun _ g2 L2 f2 => pc_some f2)
theorem rsp_harm {p1 p2 : Int32} : Pc (fX11_harm_0 fu p1 p2 g L) (fun _ g1 _ => Rs S0 g g1) := by
  unfold fX11_harm_0
  refine rs_nd nd_l (fun _ _ => ?_)
  refine rs_nd nd_l (fun _ _ => ?_)
  exact pc_cb rs_harm (fun _ g2 L2 f2 => pc_some f2)
theorem rsp_pair {p1 : Int32} : Pc (fX11_pair_0 fu p1 g L) (fun _ g1 _ => Rs S0 g g1) := by
  unfold fX11_pair_0
  refine rs_nd nd_w (fun _ _ => ?_)
  exact pc_cb rs_withoutTwo (fun _ g2 L2 f2 => pc_some f2)
theorem rsp_pause {p1 p2 : Int32} : Pc (fX11_pause_0 fu p1 p2 g L) (fun _ g1 _ => Rs S0 g g1) := by
  unfold fX11_pause_0
  refine rs_nd nd_w (fun _ _ => ?_)
  refine rs_nd nd_n (fun _ _ => ?_)
  exact pc_cb rs_pause (fun _ g2 L2 f2 => pc_some f2)
end PX
end
section
/-! ===== acts, sightings, images: the data stay coupled ===== -/
def nA (n : Int) : Nat := if n < 40 then n.toNat else 39
def dA (n : Int) : Nat := if n < 40 then 0 else 1
theorem nA_b {n : Int} (h0 : 0 ≤ n) (h4 : n ≤ 40) : bmp n = (nA n : Int) + 1 := by
  unfold bmp nA
  by_cases h : n < 40
  · rw [if_pos h]
    first | rw [if_pos h] | rw [if_neg (by omega)]
    omega
  · rw [if_neg h]
    first | rw [if_neg h] | rw [if_pos (by omega)]
    omega
/-- an act is kept, in the class -/
def KA (p1 p2 p3 : Int32) (g g1 : gT) : Prop := (∀ k, k < nA (g 6 9).toInt → g1 29 k = g 29 (k + dA (g 6 9).toInt) ∧ g1 30 k = g 30 (k + dA (g 6 9).toInt) ∧ g1 31 k = g 31 (k + dA (g 6 9).toInt)) ∧ (g1 29 (nA (g 6 9).toInt) = p1 ∧ g1 30 (nA (g 6 9).toInt) = p2 ∧ g1 31 (nA (g 6 9).toInt) = p3) ∧ (∀ k, k ≠ 29 → k ≠ 30 → k ≠ 31 → k ≠ 6 → g1 k = g k) ∧ (∀ j, j ≠ 9 → g1 6 j = g 6 j)
theorem cpy_s {f : Nat → Int32} {j : Nat} : va_cpy f f (Int32.toNatClampNeg 1) (Int32.toNatClampNeg 0) (Int32.toNatClampNeg 39) j = if j < 39 then f (j + 1) else f j := by
  have e0 : Int32.toNatClampNeg 0 = 0 := rfl
  have e1 : Int32.toNatClampNeg 1 = 1 := rfl
  have e39 : Int32.toNatClampNeg 39 = 39 := rfl
  rw [e0, e1, e39]
  unfold va_cpy
  by_cases hj : j < 39
  · rw [if_pos ⟨Nat.zero_le _, by omega⟩, if_pos hj]
    congr 1; omega
  · rw [if_neg (fun h => hj (by omega)), if_neg hj]
theorem keepAct_x {fu : Nat} {p1 p2 p3 : Int32} {g : gT} {L : lT} (h0 : 0 ≤ (g 6 9).toInt) (h4 : (g 6 9).toInt ≤ 40) : Pc (fX3_keepAct_6 fu p1 p2 p3 g L) (fun _ g1 _ => KA p1 p2 p3 g g1) := by
  have P13 : ∀ (ga : gT) (La : lT), (ga 6 9).toInt = (nA (g 6 9).toInt : Int) → (∀ k, k < nA (g 6 9).toInt → ga 29 k = g 29 (k + dA (g 6 9).toInt) ∧ ga 30 k = g 30 (k + dA (g 6 9).toInt) ∧ ga 31 k = g 31 (k + dA (g 6 9).toInt)) → (∀ k, k ≠ 29 → k ≠ 30 → k ≠ 31 → k ≠ 6 → ga k = g k) → (∀ j, j ≠ 9 → ga 6 j = g 6 j) → Pc (fX3_keepAct_6_p13 fu p1 p2 p3 ga La) (fun _ g1 _ => KA p1 p2 p3 g g1) := by
    intro ga La hn h1 h2 h3
    unfold fX3_keepAct_6_p13
    refine pc_ck (fun _ _ => pc_st (fun gb eb => pc_ck (fun _ _ => pc_st (fun gc ec => pc_ck (fun _ _ => pc_st (fun gd ed => pc_st (fun ge ee => pc_some ?_)))))))
    have eN : (ga 6 9).toNatClampNeg = nA (g 6 9).toInt := by rw [nc, hn]; omega
    have b69 : gb 6 9 = ga 6 9 := by rw [eb]; rfl
    have c69 : gc 6 9 = ga 6 9 := by rw [ec]; exact b69
    rw [eN] at eb
    rw [b69, eN] at ec
    rw [c69, eN] at ed
    refine ⟨fun k hk => ?_, ⟨?_, ?_, ?_⟩, fun k a b c d => ?_, fun j hj => ?_⟩
    · obtain ⟨y1, y2, y3⟩ := h1 k hk
      have hne : k ≠ nA (g 6 9).toInt := by omega
      refine ⟨?_, ?_, ?_⟩
      · rw [ee, upd2_nk (by decide), ed, upd2_nk (by decide), ec, upd2_nk (by decide), eb, upd2_nj hne]; exact y1
      · rw [ee, upd2_nk (by decide), ed, upd2_nk (by decide), ec, upd2_nj hne, eb, upd2_nk (by decide)]; exact y2
      · rw [ee, upd2_nk (by decide), ed, upd2_nj hne, ec, upd2_nk (by decide), eb, upd2_nk (by decide)]; exact y3
    · rw [ee, upd2_nk (by decide), ed, upd2_nk (by decide), ec, upd2_nk (by decide), eb, upd2_at]
    · rw [ee, upd2_nk (by decide), ed, upd2_nk (by decide), ec, upd2_at]
    · rw [ee, upd2_nk (by decide), ed, upd2_at]
    · rw [← h2 k a b c d, ee, ed, ec, eb]
      exact funext fun i => by rw [upd2_nk d, upd2_nk c, upd2_nk b, upd2_nk a]
    · rw [ee, upd2_nj hj, ed, upd2_nk (by decide), ec, upd2_nk (by decide), eb, upd2_nk (by decide)]; exact h3 j hj
  unfold fX3_keepAct_6
  refine pc_ite (fun c => ?_) (fun c => ?_)
  · have c := icc_lt (m := (g 6 9).toInt) (n := 40) rfl (by decide) c
    have em : nA (g 6 9).toInt = (g 6 9).toInt.toNat := by unfold nA; rw [if_pos c]
    have ed : dA (g 6 9).toInt = 0 := by unfold dA; rw [if_pos c]
    refine P13 g L (by rw [em]; omega) (fun k _ => ?_) (fun _ _ _ _ _ => rfl) (fun _ _ => rfl)
    rw [ed]; exact ⟨rfl, rfl, rfl⟩
  · have c := icc_nlt (m := (g 6 9).toInt) (n := 40) rfl (by decide) c
    have em : nA (g 6 9).toInt = 39 := by unfold nA; rw [if_neg (by omega)]
    have ed : dA (g 6 9).toInt = 1 := by unfold dA; rw [if_neg (by omega)]
    unfold fX3_dropFirstAct_6
    refine pc_cb (P := fun (_ : Unit) ga _ => ga = upd2 (updA (updA (updA g 29 (va_cpy (g 29) (g 29) (Int32.toNatClampNeg 1) (Int32.toNatClampNeg 0) (Int32.toNatClampNeg 39))) 30 (va_cpy (g 30) (g 30) (Int32.toNatClampNeg 1) (Int32.toNatClampNeg 0) (Int32.toNatClampNeg 39))) 31 (va_cpy (g 31) (g 31) (Int32.toNatClampNeg 1) (Int32.toNatClampNeg 0) (Int32.toNatClampNeg 39))) 6 9 39) (fun x ga La e => by
      have e : some ((), _) = some (x, ((ga, La) : zS)) := e
      cases e; rfl) (fun _ ga La ea => ?_)
    refine P13 ga La (by rw [em, ea, upd2_at]; rfl) (fun k hk => ?_) (fun k a b c d => ?_) (fun j hj => ?_)
    · rw [em] at hk
      rw [ed, ea]
      refine ⟨?_, ?_, ?_⟩
      · rw [upd2_nk (by decide), updA_ne (by decide), updA_ne (by decide), updA_at, cpy_s, if_pos hk]
      · rw [upd2_nk (by decide), updA_ne (by decide), updA_at, cpy_s, if_pos hk]
      · rw [upd2_nk (by decide), updA_at, cpy_s, if_pos hk]
    · rw [ea]
      exact funext fun i => by rw [upd2_nk d, updA_ne c, updA_ne b, updA_ne a]
    · rw [ea, upd2_nj hj, updA_ne (by decide), updA_ne (by decide), updA_ne (by decide)]
/-- an act is kept, in the reference -/
def KM (p1 p2 : Int32) (g g1 : gT) : Prop := (∀ j, j < 2 * nA (g 0 62).toInt → g1 36 j = g 36 (j + 2 * dA (g 0 62).toInt)) ∧ (g1 36 (2 * nA (g 0 62).toInt) = p1 ∧ g1 36 (2 * nA (g 0 62).toInt + 1) = p2) ∧ (∀ k, k ≠ 36 → k ≠ 0 → g1 k = g k) ∧ (∀ j, j ≠ 62 → g1 0 j = g 0 j)
theorem keeps_m {fu : Nat} {p1 p2 : Int32} {g : gT} {L : lT} (h0 : 0 ≤ (g 0 62).toInt) (h4 : (g 0 62).toInt ≤ 40) : Pc (fX12_keeps fu p1 p2 g L) (fun _ g1 _ => KM p1 p2 g g1) := by
  have P47 : ∀ (ga : gT) (La : lT), (ga 0 62).toInt = (nA (g 0 62).toInt : Int) → (∀ j, j < 2 * nA (g 0 62).toInt → ga 36 j = g 36 (j + 2 * dA (g 0 62).toInt)) → (∀ k, k ≠ 36 → k ≠ 0 → ga k = g k) → (∀ j, j ≠ 62 → ga 0 j = g 0 j) → Pc (fX12_keeps_p47 fu p1 p2 ga La) (fun _ g1 _ => KM p1 p2 g g1) := by
    intro ga La hn h1 h2 h3
    unfold fX12_keeps_p47
    refine pc_ck (fun _ _ => pc_st (fun gb eb => pc_ck (fun _ _ => pc_st (fun gc ec => pc_st (fun gd ed => pc_some ?_)))))
    have hm : (nA (g 0 62).toInt : Int) ≤ 39 := by unfold nA; split <;> omega
    have e2 : (2 * ga 0 62).toInt = 2 * (nA (g 0 62).toInt : Int) := by rw [← hn]; exact ic_mulc (by decide) rfl (by omega) (by omega)
    have eN : (2 * ga 0 62).toNatClampNeg = 2 * nA (g 0 62).toInt := by rw [nc, e2]; omega
    have b62 : gb 0 62 = ga 0 62 := by rw [eb]; rfl
    have e3 : (2 * ga 0 62 + 1).toInt = 2 * (nA (g 0 62).toInt : Int) + 1 := ic_addc e2 (by decide) (by omega) (by omega)
    have eM : (2 * ga 0 62 + 1).toNatClampNeg = 2 * nA (g 0 62).toInt + 1 := by rw [nc, e3]; omega
    rw [eN] at eb
    rw [b62, eM] at ec
    refine ⟨fun j hj => ?_, ⟨?_, ?_⟩, fun k a b => ?_, fun j hj => ?_⟩
    · rw [ed, upd2_nk (by decide), ec, upd2_nj (by omega), eb, upd2_nj (by omega)]; exact h1 j hj
    · rw [ed, upd2_nk (by decide), ec, upd2_nj (by omega), eb, upd2_at]
    · rw [ed, upd2_nk (by decide), ec, upd2_at]
    · rw [← h2 k a b, ed, ec, eb]
      exact funext fun i => by rw [upd2_nk b, upd2_nk a, upd2_nk a]
    · rw [ed, upd2_nj hj, ec, upd2_nk (by decide), eb, upd2_nk (by decide)]; exact h3 j hj
  unfold fX12_keeps
  refine pc_ite (fun c => ?_) (fun c => ?_)
  rotate_left
  · have c := icc_neq (m := (g 0 62).toInt) (n := 40) rfl (by decide) c
    have em : nA (g 0 62).toInt = (g 0 62).toInt.toNat := by unfold nA; rw [if_pos (by omega)]
    have ed : dA (g 0 62).toInt = 0 := by unfold dA; rw [if_pos (by omega)]
    exact P47 g L (by rw [em]; omega) (fun k _ => by rw [ed]; rfl) (fun _ _ _ => rfl) (fun _ _ => rfl)
  · have c := icc_eq (m := (g 0 62).toInt) (n := 40) rfl (by decide) c
    have em : nA (g 0 62).toInt = 39 := by unfold nA; rw [if_neg (by omega)]
    have ed : dA (g 0 62).toInt = 1 := by unfold dA; rw [if_neg (by omega)]
    unfold fX12_keeps_l11
    refine pc_loop (fun v => (2 ≤ v.1.toInt ∧ v.1.toInt ≤ 80) ∧ (∀ j : Nat, v.2.1 36 j = if (j : Int) + 2 < v.1.toInt then g 36 (j + 2) else g 36 j) ∧ (∀ k, k ≠ 36 → v.2.1 k = g k)) (fun k hk v hv => ?_) ⟨(show 2 ≤ (2 : Int32).toInt ∧ (2 : Int32).toInt ≤ 80 from by decide), fun j => (if_neg (fun h => absurd (show (j : Int) + 2 < 2 from h) (by omega))).symm, fun _ _ => rfl⟩
    obtain ⟨v3, g', L'⟩ := v
    obtain ⟨hr, h1, h2⟩ := hv
    replace hr : 2 ≤ v3.toInt ∧ v3.toInt ≤ 80 := hr
    replace h1 : ∀ j : Nat, g' 36 j = if (j : Int) + 2 < v3.toInt then g 36 (j + 2) else g 36 j := h1
    replace h2 : ∀ k, k ≠ 36 → g' k = g k := h2
    show Pc (fX12_keeps_s11 fu p1 p2 k v3 g' L') _
    unfold fX12_keeps_s11
    refine pc_ite (fun c3 => pc_st (fun ga ea => ?_)) (fun c3 => pc_ck (fun _ _ => pc_ck (fun _ _ => pc_st (fun gb eb => hk _ ?_))))
    · have c3 := icc_le (m := 80) (n := v3.toInt) (by decide) rfl c3
      refine P47 ga L' ?_ (fun j hj => ?_) (fun k a b => ?_) (fun j hj => ?_)
      · rw [em, ea, upd2_at, h2 0 (by decide), ic_subc (m := (g 0 62).toInt) (n := 1) rfl (by decide) (by omega) (by omega)]; omega
      · rw [em] at hj
        rw [ea, upd2_nk (by decide), h1 j, if_pos (by omega), ed]
      · rw [ea, ← h2 k a]; exact funext fun i => upd2_nk b
      · rw [ea, upd2_nj hj, h2 0 (by decide)]
    · have c3 := icc_nle (m := 80) (n := v3.toInt) (by decide) rfl c3
      have ew : (v3 + 1).toInt = v3.toInt + 1 := ic_addc rfl (by decide) (by omega) (by omega)
      have es : (v3 - 2).toInt = v3.toInt - 2 := ic_subc rfl (by decide) (by omega) (by omega)
      have eN : (v3 - 2).toNatClampNeg = v3.toInt.toNat - 2 := by rw [nc, es]; omega
      have eM : v3.toNatClampNeg = v3.toInt.toNat := by rw [nc]
      rw [eN, eM] at eb
      refine ⟨(show 2 ≤ (v3 + 1).toInt ∧ (v3 + 1).toInt ≤ 80 by omega), fun j => ?_, fun k a => ?_⟩
      · show gb 36 j = if (j : Int) + 2 < (v3 + 1).toInt then g 36 (j + 2) else g 36 j
        rw [eb]
        by_cases e : j = v3.toInt.toNat - 2
        · rw [e, upd2_at, h1, if_neg (by omega), if_pos (by omega)]
          congr 1; omega
        · rw [upd2_nj e, h1 j]
          by_cases hj : (j : Int) + 2 < v3.toInt
          · rw [if_pos hj, if_pos (by omega)]
          · rw [if_neg hj, if_neg (by omega)]
      · show gb k = g k
        rw [eb, ← h2 k a]; exact funext fun i => upd2_nk a
theorem ac_keep {g gm g1 g2 : gT} {p1 p2 p3 w v : Int32} (e69 : g 6 9 = gm 0 62) (h0 : 0 ≤ (gm 0 62).toInt) (h4 : (gm 0 62).toInt ≤ 40) (h : AC (gm 0 62).toInt 29 36 g gm) (hx : KA p1 p2 p3 g g1) (hm : KM w v gm g2) (new : ((p1.toInt = 4 ∧ w.toInt = 48) ∨ ((0 ≤ p1.toInt ∧ p1.toInt ≤ 3) ∧ (0 ≤ p2.toInt ∧ p2.toInt ≤ 11) ∧ w.toInt = 12 * p1.toInt + p2.toInt)) ∧ p3 = v) : AC (bmp (gm 0 62).toInt) 29 36 g1 g2 := by
  obtain ⟨x1, ⟨x2, x3, x4⟩, -, -⟩ := hx
  obtain ⟨y1, ⟨y2, y3⟩, -, -⟩ := hm
  rw [e69] at x1 x2 x3 x4
  rw [nA_b h0 h4]
  generalize hM : nA (gm 0 62).toInt = M at *
  have hd : ∀ k : Nat, k < M → ((k + dA (gm 0 62).toInt : Nat) : Int) < (gm 0 62).toInt := by
    intro k hk
    rw [← hM] at hk
    unfold nA at hk
    unfold dA
    split at hk
    · rw [if_pos (by assumption)]; omega
    · rw [if_neg (by assumption)]; omega
  intro k hk
  by_cases hkM : k < M
  · obtain ⟨z1, z2, z3⟩ := x1 k hkM
    have z := h (k + dA (gm 0 62).toInt) (hd k hkM)
    have e1 : g2 36 (2 * k) = gm 36 (2 * (k + dA (gm 0 62).toInt)) := by rw [y1 (2 * k) (by omega)]; congr 1; omega
    have e2 : g2 36 (2 * k + 1) = gm 36 (2 * (k + dA (gm 0 62).toInt) + 1) := by rw [y1 (2 * k + 1) (by omega)]; congr 1; omega
    show (((g1 29 k).toInt = 4 ∧ (g2 36 (2 * k)).toInt = 48) ∨ ((0 ≤ (g1 29 k).toInt ∧ (g1 29 k).toInt ≤ 3) ∧ (0 ≤ (g1 30 k).toInt ∧ (g1 30 k).toInt ≤ 11) ∧ (g2 36 (2 * k)).toInt = 12 * (g1 29 k).toInt + (g1 30 k).toInt)) ∧ g1 31 k = g2 36 (2 * k + 1)
    rw [z1, z2, z3, e1, e2]
    exact z
  · obtain rfl : k = M := by omega
    show (((g1 29 k).toInt = 4 ∧ (g2 36 (2 * k)).toInt = 48) ∨ ((0 ≤ (g1 29 k).toInt ∧ (g1 29 k).toInt ≤ 3) ∧ (0 ≤ (g1 30 k).toInt ∧ (g1 30 k).toInt ≤ 11) ∧ (g2 36 (2 * k)).toInt = 12 * (g1 29 k).toInt + (g1 30 k).toInt)) ∧ g1 31 k = g2 36 (2 * k + 1)
    rw [x2, x3, x4, y2, y3]
    exact new
end
section
/-! ===== acts, sightings, images ===== -/
abbrev NSE : String := "java/util/NoSuchElementException"
theorem cbs {β ρ : Type} {x : β} {g : gT} {L : lT} {K : β → gT → lT → Option (ρ × zS)} : cb (some (x, (g, L))) K = K x g L := rfl
theorem cbxs {β γ : Type} {x : β} {g : gT} {L : lT} {K : β → gT → lT → Option (Except String γ × zS)} : cbx (some (.ok x, (g, L))) K = K x g L := rfl
theorem fw_00 {gm g2 : gT} (h : ∀ k j, ¬ (k = 0 ∧ j = 0) → g2 k j = gm k j) : FW [(0, 0)] [] gm g2 := fun k j _ hA => h k j (fun e => hA (by rw [e.1, e.2]; decide))
theorem u00 {g : gT} {x : Int32} {k j : Nat} (h : ¬ (k = 0 ∧ j = 0)) : upd2 g 0 0 x k j = g k j := by
  by_cases hk : k = 0
  · subst hk
    exact upd2_nj (fun e => h ⟨rfl, e⟩)
  · exact upd2_nk hk
theorem cd_00 {g gm g2 : gT} (hI : zI MT gm) (h : CD g gm) (e : ∀ k j, ¬ (k = 0 ∧ j = 0) → g2 k j = gm k j) : CD g g2 := cd_fr hI h FW.refl (fw_00 e) (A := []) (B := []) (by decide) (by decide)
/-- a counter goes up -/
theorem cd_cnt {g gm g1 g2 : gT} {i : Nat} (hI : zI MT gm) (h : CD g gm) (hi : i < 3) (e1 : g1 = upd2 g 15 i (g 15 i + 1)) (e2 : ∀ k j, ¬ (k = 0 ∧ j = 0) → g2 k j = upd2 gm 14 i (gm 14 i + 1) k j) : CD g1 g2 := by
  obtain ⟨y1, y2, y3, y4, y5⟩ := h
  have f1 : FW [] [15] g g1 := fun k j hB _ => by rw [e1, upd2_nk (fun e => hB (by rw [e]; decide))]
  have f2 : FW [(0, 0)] [14] gm g2 := fun k j hB hA => by rw [e2 k j (fun e => hA (by rw [e.1, e.2]; decide)), upd2_nk (fun e => hB (by rw [e]; decide))]
  refine ⟨y1.f hI f1 f2 (by decide) (by decide), y2.f f1 f2 (by decide) (by decide), fun h => ?_, fun j hj => ?_, y5.f f1 f2 (by decide) (by decide)⟩
  · rw [f2 0 81 (by decide) (by decide)] at h
    exact (y3 h).f f1 f2 (by decide) (by decide)
  · rw [e1, e2 14 j (fun e => absurd e.1 (by decide))]
    by_cases e : j = i
    · rw [e, upd2_at, upd2_at, y4 i hi]
    · rw [upd2_nj e, upd2_nj e]; exact y4 j hj
/-- rows of what is held change alike, acts grow -/
theorem cd_held {A A' : List (Nat × Nat)} {B B' : List Nat} {g gm g1 g2 : gT} (hI : zI MT gm) (h : CD g gm) (f1 : FW A B g g1) (f2 : FW A' B' gm g2) (o1 : (okw pcX [(1, 3), (1, 4)] A B && okw [34, 35, 36, 37, 38, 39, 40, 41, 42] [(7, 11)] A B && okw [] [(8, 8), (8, 9)] A B && okw [15] [] A B) = true) (o2 : (okw pcM [(0, 1), (0, 2), (0, 3), (0, 4)] A' B' && okw [48, 49, 50] [(0, 1), (0, 81), (0, 82), (0, 83), (0, 84)] A' B' && okw [] [(0, 60), (0, 61)] A' B' && okw [14] [] A' B') = true) (hd : HD g1 g2) : CD g1 g2 := by
  obtain ⟨y1, y2, y3, y4, y5⟩ := h
  obtain ⟨o1, o15⟩ := b_and o1
  obtain ⟨o1, o14⟩ := b_and o1
  obtain ⟨o11, o13⟩ := b_and o1
  obtain ⟨o2, o25⟩ := b_and o2
  obtain ⟨o2, o24⟩ := b_and o2
  obtain ⟨o21, o23⟩ := b_and o2
  refine ⟨y1.f hI f1 f2 o11 o21, hd, fun h => ?_, ref_f y4 f1 f2 o15 o25, y5.f f1 f2 o14 o24⟩
  rw [okw_f (k := 0) (j := 81) o23 f2 (by decide)] at h
  exact (y3 h).f f1 f2 o13 o23
theorem row_q {p : Int32} (h1 : 0 ≤ p.toInt) (h2 : p.toInt ≤ 3) : ∀ fu' g' L', fX3_row_6 fu' p g' L' = some (25 + p.toInt.toNat, (g', L')) := by
  intro fu' g' L'
  unfold fX3_row_6
  rcases (by omega : p.toInt = 0 ∨ p.toInt = 1 ∨ p.toInt = 2 ∨ p.toInt = 3) with h | h | h | h
  · rw [if_pos h, h]; rfl
  · rw [if_neg (by omega), if_pos h, h]; rfl
  · rw [if_neg (by omega), if_neg (by omega), if_pos h, h]; rfl
  · rw [if_neg (by omega), if_neg (by omega), if_neg (by omega), h]; rfl
theorem hc_at {i q : Nat} {g gm : gT} (h : HC i 25 12 g gm) (hq : q ≤ 3) : g (25 + q) i = gm 12 (12 * q + i) := by
  obtain ⟨y1, y2, y3, y4⟩ := h
  rcases (by omega : q = 0 ∨ q = 1 ∨ q = 2 ∨ q = 3) with rfl | rfl | rfl | rfl
  · rw [show 12 * 0 + i = i by omega]; exact y1
  · exact y2
  · exact y3
  · exact y4
/-- one entry of a row is put, in both -/
theorem hc_put {i l q : Nat} {v : Int32} {g gm g1 g2 : gT} (h : HC i 25 12 g gm) (hi : i < 12) (hl : l < 12) (hq : q ≤ 3) (e1 : ∀ k, 25 ≤ k → k ≤ 28 → g1 k = upd2 g (25 + q) l v k) (e2 : g2 12 = upd2 gm 12 (12 * q + l) v 12) : HC i 25 12 g1 g2 := by
  have key : ∀ m, m ≤ 3 → g1 (25 + m) i = g2 12 (12 * m + i) := by
    intro m hm
    rw [e1 (25 + m) (by omega) (by omega), e2]
    have old := hc_at h hm
    by_cases em : m = q
    · subst em
      by_cases ei : i = l
      · subst ei
        rw [upd2_at, upd2_at]
      · rw [upd2_nj ei, upd2_nj (by omega)]; exact old
    · rw [upd2_nk (by omega), upd2_nj (by omega)]; exact old
  have k0 := key 0 (by decide)
  rw [show 12 * 0 + i = i by omega] at k0
  exact ⟨k0, key 1 (by decide), key 2 (by decide), key 3 (by decide)⟩
theorem l12 {n p : Int32} (h : isL n p) (hn : n.toInt ≤ 12) : 0 ≤ p.toInt ∧ p.toInt < 12 := by
  have h1 := h.1
  have h2 := h.2
  omega
theorem cd_become {fu : Nat} {p1 p2 p3 : Int32} {g gm g1 g2 : gT} {L Lm L1 L2 : lT} {rx : Except String Int32} {rm : Int32} (hp : CP g gm) (h : CD g gm) (e1 : fX11_become_0 fu p1 p2 p3 g L = some (rx, (g1, L1))) (e2 : fX12_become fu p1 p2 p3 gm Lm = some (rm, (g2, L2))) : CD g1 g2 ∧ ((rx = .ok rm ∧ g2 0 0 = 0) ∨ (rx = .error NSE ∧ g2 0 0 = 1)) := by
  have hI := hp.2.1
  obtain ⟨k1, k2, k3, k4, -⟩ := hp.2.2.2.2.2.2.1
  have r62 := hI 0 62 0 40 rfl
  have r1 := hI 0 1 0 12 rfl
  have a0 : upd2 gm 0 0 0 0 0 = 0 := upd2_at
  have e20 := e2
  unfold fX12_become at e2
  unfold sti at e2
  have a1 : upd2 gm 0 0 0 0 1 = gm 0 1 := rfl
  unfold fX12_become_p22 at e2
  by_cases c1 : isL (gm 0 1) p1
  rotate_left
  · have x : fX11_become_0 fu p1 p2 p3 g L = some (.error NSE, (g, L)) := q_xe (xneed0 (by rw [k1]; exact c1)) rfl
    rw [x] at e1
    have e2 : cb (fX12_isLesson fu p1 (upd2 gm 0 0 0) Lm) _ = some (rm, (g2, L2)) := e2
    rw [lesson0 a0 (by rw [a1]; exact c1)] at e2
    have e2 : some ((0 : Int32), (upd2 (upd2 gm 0 0 0) 0 0 1, Lm)) = some (rm, (g2, L2)) := e2
    cases e1; cases e2
    exact ⟨cd_00 hI h (fun k j hh => by rw [u00 hh, u00 hh]), Or.inr ⟨rfl, upd2_at⟩⟩
  have e2 : cb (fX12_isLesson fu p1 (upd2 gm 0 0 0) Lm) _ = some (rm, (g2, L2)) := e2
  rw [lesson1 a0 (by rw [a1]; exact c1), cbs, if_neg (by decide)] at e2
  have c1x : isL (g 1 2) p1 := by rw [k1]; exact c1
  have e3 : (3 : Int32).toInt = 3 := rfl
  have e4 : (4 : Int32).toInt = 4 := rfl
  by_cases c2 : 0 ≤ p2.toInt ∧ p2.toInt ≤ (3 : Int32).toInt
  rotate_left
  · have x : fX11_become_0 fu p1 p2 p3 g L = some (.error NSE, (g, L)) := q_xo (xneed1 c1x) (q_xe (xwhat0 (fun hh => c2 (by omega))) rfl)
    rw [x] at e1
    rw [what0 a0 c2] at e2
    have e2 : some ((0 : Int32), (upd2 (upd2 gm 0 0 0) 0 0 1, Lm)) = some (rm, (g2, L2)) := e2
    cases e1; cases e2
    exact ⟨cd_00 hI h (fun k j hh => by rw [u00 hh, u00 hh]), Or.inr ⟨rfl, upd2_at⟩⟩
  rw [what1 a0 c2.1 c2.2, cbs, if_neg (by decide)] at e2
  have hw : 0 ≤ p2.toInt ∧ p2.toInt ≤ 3 := by omega
  -- the reference's roads are one
  have e2 : ∃ hi : Int32, hi.toInt = mst p2.toInt ∧ fX12_become_p57 fu p1 p2 p3 hi 0 p3 (upd2 gm 0 0 0) Lm = some (rm, (g2, L2)) := by
    have e2 : (if p2 = 0 then fX12_become_p57 fu p1 p2 p3 60 0 p3 (upd2 gm 0 0 0) Lm else if p2 = 1 then fX12_become_p57 fu p1 p2 p3 30 0 p3 (upd2 gm 0 0 0) Lm else if p2 = 2 then fX12_become_p57 fu p1 p2 p3 9 0 p3 (upd2 gm 0 0 0) Lm else fX12_become_p57 fu p1 p2 p3 99 0 p3 (upd2 gm 0 0 0) Lm) = some (rm, (g2, L2)) := e2
    by_cases d0 : p2 = 0
    · rw [if_pos d0] at e2; exact ⟨60, by rw [d0]; rfl, e2⟩
    by_cases d1 : p2 = 1
    · rw [if_neg d0, if_pos d1] at e2; exact ⟨30, by rw [d1]; rfl, e2⟩
    by_cases d2 : p2 = 2
    · rw [if_neg d0, if_neg d1, if_pos d2] at e2; exact ⟨9, by rw [d2]; rfl, e2⟩
    · rw [if_neg d0, if_neg d1, if_neg d2] at e2
      refine ⟨99, ?_, e2⟩
      have d0 := icc_neq (m := p2.toInt) (n := 0) rfl (by decide) d0
      have d1 := icc_neq (m := p2.toInt) (n := 1) rfl (by decide) d1
      have d2 := icc_neq (m := p2.toInt) (n := 2) rfl (by decide) d2
      unfold mst
      rw [if_neg d0, if_neg d1, if_neg d2]; rfl
  obtain ⟨hi, hhi, e2⟩ := e2
  obtain ⟨y, ey, hy⟩ := most_eq (fu := fu) (p := p2) (g := g) (L := L)
  unfold fX12_become_p57 at e2
  have z0 : (0 : Int32).toInt = 0 := rfl
  by_cases c3 : (0 : Int32).toInt ≤ p3.toInt ∧ p3.toInt ≤ hi.toInt
  rotate_left
  · rw [within0 c3] at e2
    have e2 : some ((-1 : Int32), (upd2 (upd2 gm 0 0 0) 14 1 (gm 14 1 + 1), Lm)) = some (rm, (g2, L2)) := e2
    have x : fX11_become_0 fu p1 p2 p3 g L = some (.ok (-1), (upd2 g 15 1 (g 15 1 + 1), L)) := by
      refine q_xo (xneed1 c1x) (q_xo (xwhat1 hw.1 (by omega)) ?_)
      by_cases d : p3 < 0
      · exact q_t d rfl
      · have d' := icc_nlt (m := p3.toInt) (n := 0) rfl (by decide) d
        refine q_f d (q_cb ey (q_f (fun hh => c3 ⟨by omega, ?_⟩) rfl))
        have := icc_le (m := p3.toInt) (n := y.toInt) rfl rfl hh
        omega
    rw [x] at e1
    cases e1; cases e2
    refine ⟨cd_cnt (i := 1) hI h (by decide) rfl (fun k j hh => ?_), Or.inl ⟨rfl, rfl⟩⟩
    by_cases hk : k = 14
    · subst hk
      by_cases hj : j = 1
      · subst hj; rw [upd2_at, upd2_at]
      · rw [upd2_nj hj, upd2_nj hj, u00 hh]
    · rw [upd2_nk hk, upd2_nk hk, u00 hh]
  rw [within1 c3.1 c3.2, cbs, if_neg (by decide)] at e2
  have hl := l12 c1 (by omega)
  -- the class
  have x4 : Pc (fX11_become_0 fu p1 p2 p3 g L) (fun r ga _ => ∃ gk, KA p2 p1 (g (25 + p2.toInt.toNat) p1.toNatClampNeg) g gk ∧ r = .ok (g (25 + p2.toInt.toNat) p1.toNatClampNeg) ∧ ga = upd2 gk (25 + p2.toInt.toNat) p1.toNatClampNeg p3) := by
    unfold fX11_become_0
    rw [xneed1 c1x, cbxs, xwhat1 hw.1 (by omega), cbxs]
    rw [if_neg (fun hh => by have := icc_lt (m := p3.toInt) (n := 0) rfl (by decide) hh; omega), ey, cbs]
    rw [if_pos (Int32.le_iff_toInt_le.mpr (by omega))]
    have hrow := row_q hw.1 hw.2
    refine pc_cb (value_x hrow) (fun x16 ga La ha => ?_)
    obtain ⟨rfl, rfl⟩ := ha
    have r69 : 0 ≤ (ga 6 9).toInt ∧ (ga 6 9).toInt ≤ 40 := by rw [k3]; exact r62
    exact pc_cb (keepAct_x r69.1 r69.2) (fun _ gb Lb hb => pc_cb (put_x hrow) (fun _ gc Lc hc => pc_some ⟨gb, hb, rfl, hc⟩))
  obtain ⟨gk, hka, er, eg1⟩ := x4 _ _ _ e1
  -- the reference
  have e17 : (12 * p2 + p1).toInt = 12 * p2.toInt + p1.toInt := by
    have := ic_mulc (x := 12) (y := p2) (m := 12) (n := p2.toInt) (by decide) rfl (by omega) (by omega)
    exact ic_addc this rfl (by omega) (by omega)
  have eN17 : (12 * p2 + p1).toNatClampNeg = 12 * p2.toInt.toNat + p1.toInt.toNat := by rw [nc, e17]; omega
  have m4 : ∃ gn, KM (12 * p2 + p1) (gm 12 (12 * p2.toInt.toNat + p1.toInt.toNat)) (upd2 gm 0 0 0) gn ∧ rm = gm 12 (12 * p2.toInt.toNat + p1.toInt.toNat) ∧ g2 = upd2 gn 12 (12 * p2.toInt.toNat + p1.toInt.toNat) p3 := by
    have e2 : lti (12 * p2 + p1) (fun x17 => ck x17 48 (lti (upd2 gm 0 0 0 12 (Int32.toNatClampNeg x17)) (fun x18 => cb (fX12_keeps fu x17 x18 (upd2 gm 0 0 0) Lm) (fun _ g20 L21 => ck x17 48 (sti g20 12 (Int32.toNatClampNeg x17) p3 (fun g23 => some (x18, (g23, L21)))))))) = some (rm, (g2, L2)) := e2
    have key : Pc (lti (12 * p2 + p1) (fun x17 => ck x17 48 (lti (upd2 gm 0 0 0 12 (Int32.toNatClampNeg x17)) (fun x18 => cb (fX12_keeps fu x17 x18 (upd2 gm 0 0 0) Lm) (fun _ g20 L21 => ck x17 48 (sti g20 12 (Int32.toNatClampNeg x17) p3 (fun g23 => some (x18, (g23, L21))))))))) (fun r ga _ => ∃ gn, KM (12 * p2 + p1) (gm 12 (12 * p2.toInt.toNat + p1.toInt.toNat)) (upd2 gm 0 0 0) gn ∧ r = gm 12 (12 * p2.toInt.toNat + p1.toInt.toNat) ∧ ga = upd2 gn 12 (12 * p2.toInt.toNat + p1.toInt.toNat) p3) := by
      refine pc_lti (fun x17 ex => pc_ck (fun _ _ => pc_lti (fun x18 ex18 => ?_)))
      subst ex
      rw [eN17] at ex18 ⊢
      have ex18 : x18 = gm 12 (12 * p2.toInt.toNat + p1.toInt.toNat) := ex18
      subst ex18
      exact pc_cb (keeps_m (g := upd2 gm 0 0 0) r62.1 r62.2) (fun _ gb Lb hb => pc_ck (fun _ _ => pc_st (fun gc ec => pc_some ⟨gb, hb, rfl, ec⟩)))
    exact key _ _ _ e2
  obtain ⟨gn, hkm, er2, eg2⟩ := m4
  have eP : p1.toNatClampNeg = p1.toInt.toNat := by rw [nc]
  rw [eP] at hka er eg1
  have hHC := h.2.1.1 p1.toInt.toNat (by have := c1.2; omega)
  have hval : g (25 + p2.toInt.toNat) p1.toInt.toNat = gm 12 (12 * p2.toInt.toNat + p1.toInt.toNat) := hc_at hHC (by omega)
  have n0 : ∀ j, j ≠ 0 → j ≠ 62 → g2 0 j = gm 0 j := fun j h0 h62 => by
    rw [eg2, upd2_nk (by decide), hkm.2.2.2 j h62, upd2_nj h0]
  have n00 : g2 0 0 = 0 := by rw [eg2, upd2_nk (by decide), hkm.2.2.2 0 (by decide), upd2_at]
  have e62 : (g2 0 62).toInt = bmp (gm 0 62).toInt := (become_m (fu := fu) (p1 := p1) (p2 := p2) (p3 := p3) (g := gm) (L := Lm) r62 _ _ _ e20).1 ⟨c1, hw, by omega, by omega⟩
  have f1 : FW [(6, 9)] [25, 26, 27, 28, 29, 30, 31] g g1 := by
    intro k j hB hA
    have hk : k ≠ 25 + p2.toInt.toNat := fun e => hB (by
      rcases (by omega : p2.toInt.toNat = 0 ∨ p2.toInt.toNat = 1 ∨ p2.toInt.toNat = 2 ∨ p2.toInt.toNat = 3) with h | h | h | h <;> (rw [e, h]; decide))
    rw [eg1, upd2_nk hk]
    by_cases k6 : k = 6
    · subst k6
      exact hka.2.2.2 j (fun e => hA (by rw [e]; decide))
    · rw [hka.2.2.1 k (fun e => hB (by rw [e]; decide)) (fun e => hB (by rw [e]; decide)) (fun e => hB (by rw [e]; decide)) k6]
  have f2 : FW [(0, 0), (0, 62)] [12, 36] gm g2 := by
    intro k j hB hA
    by_cases k0 : k = 0
    · subst k0
      exact n0 j (fun e => hA (by rw [e]; decide)) (fun e => hA (by rw [e]; decide))
    · rw [eg2, upd2_nk (fun e => hB (by rw [e]; decide)), hkm.2.2.1 k (fun e => hB (by rw [e]; decide)) k0, upd2_nk k0]
  have f3 : FW [(0, 0)] [] gm (upd2 gm 0 0 0) := fw_00 (fun k j hh => u00 hh)
  have hka' : AC (bmp (gm 0 62).toInt) 29 36 gk gn := by
    refine ac_keep (g := g) (gm := upd2 gm 0 0 0) (p1 := p2) (p2 := p1) (w := 12 * p2 + p1) (by exact k3) r62.1 r62.2 (h.2.1.2.2.1.c rfl rfl rfl (funext fun j => upd2_nk (by decide))) hka hkm ⟨Or.inr ⟨hw, ⟨hl.1, by omega⟩, e17⟩, hval⟩
  refine ⟨cd_held hI h f1 f2 (by decide) (by decide) ⟨fun i hi => ?_, ?_, ?_, ?_⟩, Or.inl ⟨by rw [er, er2, hval], n00⟩⟩
  · rw [n0 1 (by decide) (by decide)] at hi
    refine hc_put (h.2.1.1 i hi) (by omega) (by omega) (q := p2.toInt.toNat) (l := p1.toInt.toNat) (v := p3) (by omega) (fun k a c => ?_) ?_
    · rw [eg1]
      funext j
      by_cases hk : k = 25 + p2.toInt.toNat
      · subst hk
        by_cases hj : j = p1.toInt.toNat
        · subst hj; rw [upd2_at, upd2_at]
        · rw [upd2_nj hj, upd2_nj hj, hka.2.2.1 _ (by omega) (by omega) (by omega) (by omega)]
      · rw [upd2_nk hk, upd2_nk hk, hka.2.2.1 k (by omega) (by omega) (by omega) (by omega)]
    · rw [eg2]
      funext j
      by_cases hj : j = 12 * p2.toInt.toNat + p1.toInt.toNat
      · subst hj; rw [upd2_at, upd2_at]
      · rw [upd2_nj hj, upd2_nj hj, hkm.2.2.1 12 (by decide) (by decide), upd2_nk (by decide)]
  · rw [f1 6 11 (by decide) (by decide), n0 52 (by decide) (by decide)]; exact h.2.1.2.1
  · rw [e62]
    refine hka'.c ?_ ?_ ?_ ?_
    · rw [eg1]; exact funext fun j => upd2_nk (by omega)
    · rw [eg1]; exact funext fun j => upd2_nk (by omega)
    · rw [eg1]; exact funext fun j => upd2_nk (by omega)
    · rw [eg2]; exact funext fun j => upd2_nk (by decide)
  · rw [n0 73 (by decide) (by decide)]
    refine h.2.1.2.2.2.c ?_ ?_ ?_
    · exact f1.c (by decide) (by decide)
    · exact f1.c (by decide) (by decide)
    · exact f2.c (by decide) (by decide)
end
